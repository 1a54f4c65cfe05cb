section
/-! a name of the wide library in the first part: a round on a new machine goes over to the wide library at once, not after forty parts -/
theorem tm_wide : FP.Core.b32.tails = 2 ^ 23 := FP.Core.tails_b32
end
section
-- ===== PART A: goes FIRST, ahead of the names: the tables' words, and 'selects' of the private methods out of them =====
/-- a private method of a class that the tables say can be made, by its rows of tables_1 -/
def lw_okq (q : MethodName × Nat) : Prop := (q.1.cls ≠ "java/lang/invoke/MethodHandle" ∧ q.1.cls ≠ "java/lang/invoke/VarHandle") ∧ Cond.instantiable q.1.cls q.2 ∈ tables_1 ∧ Cond.privateMethod q.1 ∈ tables_1 ∧ Cond.instanceMethod q.1 ∈ tables_1
theorem lw_p0 : lw_okq (⟨"TreemapLayout$Layout", "orderNodes", "(LTreemapLayout$State;)V"⟩, 8) := ⟨⟨by decide +kernel, by decide +kernel⟩, List.mem_of_getElem? (i := 65) (by decide +kernel), List.mem_of_getElem? (i := 227) (by decide +kernel), List.mem_of_getElem? (i := 228) (by decide +kernel)⟩
theorem lw_p1 : lw_okq (⟨"TreemapLayout$Layout", "sumSizes", "(LTreemapLayout$State;)V"⟩, 8) := ⟨⟨by decide +kernel, by decide +kernel⟩, List.mem_of_getElem? (i := 65) (by decide +kernel), List.mem_of_getElem? (i := 231) (by decide +kernel), List.mem_of_getElem? (i := 232) (by decide +kernel)⟩
theorem lw_p2 : lw_okq (⟨"TreemapLayout$Layout", "placeChildren", "(ILTreemapLayout$State;)V"⟩, 8) := ⟨⟨by decide +kernel, by decide +kernel⟩, List.mem_of_getElem? (i := 65) (by decide +kernel), List.mem_of_getElem? (i := 243) (by decide +kernel), List.mem_of_getElem? (i := 244) (by decide +kernel)⟩
theorem lw_p3 : lw_okq (⟨"TreemapLayout$Placer", "fillBand", "(IIZLTreemapLayout$Rects;)V"⟩, 8) := ⟨⟨by decide +kernel, by decide +kernel⟩, List.mem_of_getElem? (i := 99) (by decide +kernel), List.mem_of_getElem? (i := 271) (by decide +kernel), List.mem_of_getElem? (i := 272) (by decide +kernel)⟩
theorem lw_p4 : lw_okq (⟨"TreemapLayout$Shares", "largestRemainder", "()I"⟩, 4) := ⟨⟨by decide +kernel, by decide +kernel⟩, List.mem_of_getElem? (i := 128) (by decide +kernel), List.mem_of_getElem? (i := 287) (by decide +kernel), List.mem_of_getElem? (i := 288) (by decide +kernel)⟩
theorem lw_p5 : lw_okq (⟨"TreemapLayout$Placer", "splitIntoStrips", "()V"⟩, 8) := ⟨⟨by decide +kernel, by decide +kernel⟩, List.mem_of_getElem? (i := 99) (by decide +kernel), List.mem_of_getElem? (i := 296) (by decide +kernel), List.mem_of_getElem? (i := 297) (by decide +kernel)⟩
theorem lw_p6 : lw_okq (⟨"TreemapLayout$Placer", "pixelsPerSize", "(I)F"⟩, 8) := ⟨⟨by decide +kernel, by decide +kernel⟩, List.mem_of_getElem? (i := 99) (by decide +kernel), List.mem_of_getElem? (i := 300) (by decide +kernel), List.mem_of_getElem? (i := 301) (by decide +kernel)⟩
theorem lw_p7 : lw_okq (⟨"TreemapLayout$Placer", "sumOfSizes", "(II)I"⟩, 8) := ⟨⟨by decide +kernel, by decide +kernel⟩, List.mem_of_getElem? (i := 99) (by decide +kernel), List.mem_of_getElem? (i := 304) (by decide +kernel), List.mem_of_getElem? (i := 305) (by decide +kernel)⟩
theorem lw_p8 : lw_okq (⟨"TreemapLayout$Placer", "averageRatio", "(IIF)F"⟩, 8) := ⟨⟨by decide +kernel, by decide +kernel⟩, List.mem_of_getElem? (i := 99) (by decide +kernel), List.mem_of_getElem? (i := 308) (by decide +kernel), List.mem_of_getElem? (i := 309) (by decide +kernel)⟩
theorem lw_p9 : lw_okq (⟨"TreemapLayout$Placer", "sortByFallingSize", "()V"⟩, 8) := ⟨⟨by decide +kernel, by decide +kernel⟩, List.mem_of_getElem? (i := 99) (by decide +kernel), List.mem_of_getElem? (i := 322) (by decide +kernel), List.mem_of_getElem? (i := 323) (by decide +kernel)⟩
theorem lw_p10 : lw_okq (⟨"TreemapLayout$Placer", "collapse", "(ILTreemapLayout$Rects;)V"⟩, 8) := ⟨⟨by decide +kernel, by decide +kernel⟩, List.mem_of_getElem? (i := 99) (by decide +kernel), List.mem_of_getElem? (i := 326) (by decide +kernel), List.mem_of_getElem? (i := 327) (by decide +kernel)⟩
theorem lw_p11 : lw_okq (⟨"TreemapLayout$Placer", "endOfRow", "(I)I"⟩, 8) := ⟨⟨by decide +kernel, by decide +kernel⟩, List.mem_of_getElem? (i := 99) (by decide +kernel), List.mem_of_getElem? (i := 330) (by decide +kernel), List.mem_of_getElem? (i := 331) (by decide +kernel)⟩
theorem lw_p12 : lw_okq (⟨"TreemapLayout$Placer", "worstRatio", "(IIFI)F"⟩, 8) := ⟨⟨by decide +kernel, by decide +kernel⟩, List.mem_of_getElem? (i := 99) (by decide +kernel), List.mem_of_getElem? (i := 337) (by decide +kernel), List.mem_of_getElem? (i := 338) (by decide +kernel)⟩
theorem lw_p13 : lw_okq (⟨"TreemapLayout$Placer", "cutBand", "(IIZ)V"⟩, 8) := ⟨⟨by decide +kernel, by decide +kernel⟩, List.mem_of_getElem? (i := 99) (by decide +kernel), List.mem_of_getElem? (i := 341) (by decide +kernel), List.mem_of_getElem? (i := 342) (by decide +kernel)⟩
theorem lw_p14 : lw_okq (⟨"TreemapLayout$Placer", "rowThickness", "(III)I"⟩, 8) := ⟨⟨by decide +kernel, by decide +kernel⟩, List.mem_of_getElem? (i := 99) (by decide +kernel), List.mem_of_getElem? (i := 345) (by decide +kernel), List.mem_of_getElem? (i := 346) (by decide +kernel)⟩
theorem lw_p15 : lw_okq (⟨"TreemapLayout", "failInvalid", "()I"⟩, 8) := ⟨⟨by decide +kernel, by decide +kernel⟩, List.mem_of_getElem? (i := 14) (by decide +kernel), List.mem_of_getElem? (i := 385) (by decide +kernel), List.mem_of_getElem? (i := 386) (by decide +kernel)⟩
def lw_privs_1 : List (MethodName × Nat) := [(⟨"TreemapLayout$Layout", "orderNodes", "(LTreemapLayout$State;)V"⟩, 8), (⟨"TreemapLayout$Layout", "sumSizes", "(LTreemapLayout$State;)V"⟩, 8), (⟨"TreemapLayout$Layout", "placeChildren", "(ILTreemapLayout$State;)V"⟩, 8), (⟨"TreemapLayout$Placer", "fillBand", "(IIZLTreemapLayout$Rects;)V"⟩, 8), (⟨"TreemapLayout$Shares", "largestRemainder", "()I"⟩, 4), (⟨"TreemapLayout$Placer", "splitIntoStrips", "()V"⟩, 8), (⟨"TreemapLayout$Placer", "pixelsPerSize", "(I)F"⟩, 8), (⟨"TreemapLayout$Placer", "sumOfSizes", "(II)I"⟩, 8), (⟨"TreemapLayout$Placer", "averageRatio", "(IIF)F"⟩, 8), (⟨"TreemapLayout$Placer", "sortByFallingSize", "()V"⟩, 8), (⟨"TreemapLayout$Placer", "collapse", "(ILTreemapLayout$Rects;)V"⟩, 8), (⟨"TreemapLayout$Placer", "endOfRow", "(I)I"⟩, 8), (⟨"TreemapLayout$Placer", "worstRatio", "(IIFI)F"⟩, 8), (⟨"TreemapLayout$Placer", "cutBand", "(IIZ)V"⟩, 8), (⟨"TreemapLayout$Placer", "rowThickness", "(III)I"⟩, 8), (⟨"TreemapLayout", "failInvalid", "()I"⟩, 8)]
theorem lw_r1 : ∀ q ∈ lw_privs_1, lw_okq q := List.forall_mem_cons.mpr ⟨lw_p0, List.forall_mem_cons.mpr ⟨lw_p1, List.forall_mem_cons.mpr ⟨lw_p2, List.forall_mem_cons.mpr ⟨lw_p3, List.forall_mem_cons.mpr ⟨lw_p4, List.forall_mem_cons.mpr ⟨lw_p5, List.forall_mem_cons.mpr ⟨lw_p6, List.forall_mem_cons.mpr ⟨lw_p7, List.forall_mem_cons.mpr ⟨lw_p8, List.forall_mem_cons.mpr ⟨lw_p9, List.forall_mem_cons.mpr ⟨lw_p10, List.forall_mem_cons.mpr ⟨lw_p11, List.forall_mem_cons.mpr ⟨lw_p12, List.forall_mem_cons.mpr ⟨lw_p13, List.forall_mem_cons.mpr ⟨lw_p14, List.forall_mem_cons.mpr ⟨lw_p15, fun _ h => absurd h List.not_mem_nil⟩⟩⟩⟩⟩⟩⟩⟩⟩⟩⟩⟩⟩⟩⟩⟩
theorem lw_p16 : lw_okq (⟨"TreemapLayout", "failFull", "()I"⟩, 8) := ⟨⟨by decide +kernel, by decide +kernel⟩, List.mem_of_getElem? (i := 14) (by decide +kernel), List.mem_of_getElem? (i := 389) (by decide +kernel), List.mem_of_getElem? (i := 390) (by decide +kernel)⟩
theorem lw_p17 : lw_okq (⟨"TreemapLayout", "failRejected", "()I"⟩, 8) := ⟨⟨by decide +kernel, by decide +kernel⟩, List.mem_of_getElem? (i := 14) (by decide +kernel), List.mem_of_getElem? (i := 417) (by decide +kernel), List.mem_of_getElem? (i := 418) (by decide +kernel)⟩
theorem lw_p18 : lw_okq (⟨"TreemapLayout", "hiddenFlag", "(I)I"⟩, 8) := ⟨⟨by decide +kernel, by decide +kernel⟩, List.mem_of_getElem? (i := 14) (by decide +kernel), List.mem_of_getElem? (i := 489) (by decide +kernel), List.mem_of_getElem? (i := 490) (by decide +kernel)⟩
theorem lw_p19 : lw_okq (⟨"TreemapLayout", "mixNode", "(JI)J"⟩, 8) := ⟨⟨by decide +kernel, by decide +kernel⟩, List.mem_of_getElem? (i := 14) (by decide +kernel), List.mem_of_getElem? (i := 568) (by decide +kernel), List.mem_of_getElem? (i := 569) (by decide +kernel)⟩
theorem lw_p20 : lw_okq (⟨"TreemapLayoutModel", "fails", "(I)I"⟩, 18) := ⟨⟨by decide +kernel, by decide +kernel⟩, List.mem_of_getElem? (i := 575) (by decide +kernel), List.mem_of_getElem? (i := 640) (by decide +kernel), List.mem_of_getElem? (i := 641) (by decide +kernel)⟩
theorem lw_p21 : lw_okq (⟨"TreemapLayoutModel", "isNode", "(I)Z"⟩, 18) := ⟨⟨by decide +kernel, by decide +kernel⟩, List.mem_of_getElem? (i := 575) (by decide +kernel), List.mem_of_getElem? (i := 648) (by decide +kernel), List.mem_of_getElem? (i := 649) (by decide +kernel)⟩
theorem lw_p22 : lw_okq (⟨"TreemapLayoutModel", "saves", "()V"⟩, 18) := ⟨⟨by decide +kernel, by decide +kernel⟩, List.mem_of_getElem? (i := 575) (by decide +kernel), List.mem_of_getElem? (i := 655) (by decide +kernel), List.mem_of_getElem? (i := 656) (by decide +kernel)⟩
theorem lw_p23 : lw_okq (⟨"TreemapLayoutModel", "changes", "(II)I"⟩, 18) := ⟨⟨by decide +kernel, by decide +kernel⟩, List.mem_of_getElem? (i := 575) (by decide +kernel), List.mem_of_getElem? (i := 663) (by decide +kernel), List.mem_of_getElem? (i := 664) (by decide +kernel)⟩
theorem lw_p24 : lw_okq (⟨"TreemapLayoutModel", "childMany", "(I)I"⟩, 18) := ⟨⟨by decide +kernel, by decide +kernel⟩, List.mem_of_getElem? (i := 575) (by decide +kernel), List.mem_of_getElem? (i := 671) (by decide +kernel), List.mem_of_getElem? (i := 672) (by decide +kernel)⟩
theorem lw_p25 : lw_okq (⟨"TreemapLayoutModel", "isUnder", "(II)Z"⟩, 18) := ⟨⟨by decide +kernel, by decide +kernel⟩, List.mem_of_getElem? (i := 575) (by decide +kernel), List.mem_of_getElem? (i := 679) (by decide +kernel), List.mem_of_getElem? (i := 680) (by decide +kernel)⟩
theorem lw_p26 : lw_okq (⟨"TreemapLayoutModel", "sizeOf", "(I)I"⟩, 18) := ⟨⟨by decide +kernel, by decide +kernel⟩, List.mem_of_getElem? (i := 575) (by decide +kernel), List.mem_of_getElem? (i := 703) (by decide +kernel), List.mem_of_getElem? (i := 704) (by decide +kernel)⟩
theorem lw_p27 : lw_okq (⟨"TreemapLayoutModel", "depthOf", "(I)I"⟩, 18) := ⟨⟨by decide +kernel, by decide +kernel⟩, List.mem_of_getElem? (i := 575) (by decide +kernel), List.mem_of_getElem? (i := 715) (by decide +kernel), List.mem_of_getElem? (i := 716) (by decide +kernel)⟩
theorem lw_p28 : lw_okq (⟨"TreemapLayoutModel", "leaves", "()I"⟩, 18) := ⟨⟨by decide +kernel, by decide +kernel⟩, List.mem_of_getElem? (i := 575) (by decide +kernel), List.mem_of_getElem? (i := 723) (by decide +kernel), List.mem_of_getElem? (i := 724) (by decide +kernel)⟩
theorem lw_p29 : lw_okq (⟨"TreemapLayoutModel", "lays", "()V"⟩, 18) := ⟨⟨by decide +kernel, by decide +kernel⟩, List.mem_of_getElem? (i := 575) (by decide +kernel), List.mem_of_getElem? (i := 731) (by decide +kernel), List.mem_of_getElem? (i := 732) (by decide +kernel)⟩
theorem lw_p30 : lw_okq (⟨"TreemapLayoutModel", "puts", "(IIIII)V"⟩, 18) := ⟨⟨by decide +kernel, by decide +kernel⟩, List.mem_of_getElem? (i := 575) (by decide +kernel), List.mem_of_getElem? (i := 735) (by decide +kernel), List.mem_of_getElem? (i := 736) (by decide +kernel)⟩
theorem lw_p31 : lw_okq (⟨"TreemapLayoutModel", "laysUnder", "(II)V"⟩, 18) := ⟨⟨by decide +kernel, by decide +kernel⟩, List.mem_of_getElem? (i := 575) (by decide +kernel), List.mem_of_getElem? (i := 739) (by decide +kernel), List.mem_of_getElem? (i := 740) (by decide +kernel)⟩
def lw_privs_2 : List (MethodName × Nat) := [(⟨"TreemapLayout", "failFull", "()I"⟩, 8), (⟨"TreemapLayout", "failRejected", "()I"⟩, 8), (⟨"TreemapLayout", "hiddenFlag", "(I)I"⟩, 8), (⟨"TreemapLayout", "mixNode", "(JI)J"⟩, 8), (⟨"TreemapLayoutModel", "fails", "(I)I"⟩, 18), (⟨"TreemapLayoutModel", "isNode", "(I)Z"⟩, 18), (⟨"TreemapLayoutModel", "saves", "()V"⟩, 18), (⟨"TreemapLayoutModel", "changes", "(II)I"⟩, 18), (⟨"TreemapLayoutModel", "childMany", "(I)I"⟩, 18), (⟨"TreemapLayoutModel", "isUnder", "(II)Z"⟩, 18), (⟨"TreemapLayoutModel", "sizeOf", "(I)I"⟩, 18), (⟨"TreemapLayoutModel", "depthOf", "(I)I"⟩, 18), (⟨"TreemapLayoutModel", "leaves", "()I"⟩, 18), (⟨"TreemapLayoutModel", "lays", "()V"⟩, 18), (⟨"TreemapLayoutModel", "puts", "(IIIII)V"⟩, 18), (⟨"TreemapLayoutModel", "laysUnder", "(II)V"⟩, 18)]
theorem lw_r2 : ∀ q ∈ lw_privs_2, lw_okq q := List.forall_mem_cons.mpr ⟨lw_p16, List.forall_mem_cons.mpr ⟨lw_p17, List.forall_mem_cons.mpr ⟨lw_p18, List.forall_mem_cons.mpr ⟨lw_p19, List.forall_mem_cons.mpr ⟨lw_p20, List.forall_mem_cons.mpr ⟨lw_p21, List.forall_mem_cons.mpr ⟨lw_p22, List.forall_mem_cons.mpr ⟨lw_p23, List.forall_mem_cons.mpr ⟨lw_p24, List.forall_mem_cons.mpr ⟨lw_p25, List.forall_mem_cons.mpr ⟨lw_p26, List.forall_mem_cons.mpr ⟨lw_p27, List.forall_mem_cons.mpr ⟨lw_p28, List.forall_mem_cons.mpr ⟨lw_p29, List.forall_mem_cons.mpr ⟨lw_p30, List.forall_mem_cons.mpr ⟨lw_p31, fun _ h => absurd h List.not_mem_nil⟩⟩⟩⟩⟩⟩⟩⟩⟩⟩⟩⟩⟩⟩⟩⟩
theorem lw_p32 : lw_okq (⟨"TreemapLayoutModel", "laysChildren", "(I)V"⟩, 18) := ⟨⟨by decide +kernel, by decide +kernel⟩, List.mem_of_getElem? (i := 575) (by decide +kernel), List.mem_of_getElem? (i := 743) (by decide +kernel), List.mem_of_getElem? (i := 744) (by decide +kernel)⟩
theorem lw_p33 : lw_okq (⟨"TreemapLayoutModel", "laysRow", "(IIIIIIZ)V"⟩, 18) := ⟨⟨by decide +kernel, by decide +kernel⟩, List.mem_of_getElem? (i := 575) (by decide +kernel), List.mem_of_getElem? (i := 747) (by decide +kernel), List.mem_of_getElem? (i := 748) (by decide +kernel)⟩
theorem lw_p34 : lw_okq (⟨"TreemapLayoutModel", "laysSizes", "(II)V"⟩, 18) := ⟨⟨by decide +kernel, by decide +kernel⟩, List.mem_of_getElem? (i := 575) (by decide +kernel), List.mem_of_getElem? (i := 751) (by decide +kernel), List.mem_of_getElem? (i := 752) (by decide +kernel)⟩
theorem lw_p35 : lw_okq (⟨"TreemapLayoutModel", "parts", "(II)V"⟩, 18) := ⟨⟨by decide +kernel, by decide +kernel⟩, List.mem_of_getElem? (i := 575) (by decide +kernel), List.mem_of_getElem? (i := 755) (by decide +kernel), List.mem_of_getElem? (i := 756) (by decide +kernel)⟩
theorem lw_p36 : lw_okq (⟨"TreemapLayoutModel", "laysStrips", "(IIIII)V"⟩, 18) := ⟨⟨by decide +kernel, by decide +kernel⟩, List.mem_of_getElem? (i := 575) (by decide +kernel), List.mem_of_getElem? (i := 759) (by decide +kernel), List.mem_of_getElem? (i := 760) (by decide +kernel)⟩
theorem lw_p37 : lw_okq (⟨"TreemapLayoutModel", "average", "(IIFI)F"⟩, 18) := ⟨⟨by decide +kernel, by decide +kernel⟩, List.mem_of_getElem? (i := 575) (by decide +kernel), List.mem_of_getElem? (i := 763) (by decide +kernel), List.mem_of_getElem? (i := 764) (by decide +kernel)⟩
theorem lw_p38 : lw_okq (⟨"TreemapLayoutModel", "aspect", "(IIIFI)F"⟩, 18) := ⟨⟨by decide +kernel, by decide +kernel⟩, List.mem_of_getElem? (i := 575) (by decide +kernel), List.mem_of_getElem? (i := 767) (by decide +kernel), List.mem_of_getElem? (i := 768) (by decide +kernel)⟩
theorem lw_p39 : lw_okq (⟨"TreemapLayoutModel", "sumOf", "(II)I"⟩, 18) := ⟨⟨by decide +kernel, by decide +kernel⟩, List.mem_of_getElem? (i := 575) (by decide +kernel), List.mem_of_getElem? (i := 771) (by decide +kernel), List.mem_of_getElem? (i := 772) (by decide +kernel)⟩
theorem lw_p40 : lw_okq (⟨"TreemapLayoutModel", "laysSquares", "(IIII)V"⟩, 18) := ⟨⟨by decide +kernel, by decide +kernel⟩, List.mem_of_getElem? (i := 575) (by decide +kernel), List.mem_of_getElem? (i := 775) (by decide +kernel), List.mem_of_getElem? (i := 776) (by decide +kernel)⟩
theorem lw_p41 : lw_okq (⟨"TreemapLayoutModel", "sorts", "()V"⟩, 18) := ⟨⟨by decide +kernel, by decide +kernel⟩, List.mem_of_getElem? (i := 575) (by decide +kernel), List.mem_of_getElem? (i := 779) (by decide +kernel), List.mem_of_getElem? (i := 780) (by decide +kernel)⟩
theorem lw_p42 : lw_okq (⟨"TreemapLayoutModel", "rowOf", "(IFI)I"⟩, 18) := ⟨⟨by decide +kernel, by decide +kernel⟩, List.mem_of_getElem? (i := 575) (by decide +kernel), List.mem_of_getElem? (i := 783) (by decide +kernel), List.mem_of_getElem? (i := 784) (by decide +kernel)⟩
theorem lw_p43 : lw_okq (⟨"TreemapLayoutModel", "worst", "(IIFI)F"⟩, 18) := ⟨⟨by decide +kernel, by decide +kernel⟩, List.mem_of_getElem? (i := 575) (by decide +kernel), List.mem_of_getElem? (i := 787) (by decide +kernel), List.mem_of_getElem? (i := 788) (by decide +kernel)⟩
theorem lw_p44 : lw_okq (⟨"TreemapLayoutModel", "pixels", "()I"⟩, 18) := ⟨⟨by decide +kernel, by decide +kernel⟩, List.mem_of_getElem? (i := 575) (by decide +kernel), List.mem_of_getElem? (i := 815) (by decide +kernel), List.mem_of_getElem? (i := 816) (by decide +kernel)⟩
theorem lw_p45 : lw_okq (⟨"TreemapLayoutModel", "aspects", "(Z)I"⟩, 18) := ⟨⟨by decide +kernel, by decide +kernel⟩, List.mem_of_getElem? (i := 575) (by decide +kernel), List.mem_of_getElem? (i := 823) (by decide +kernel), List.mem_of_getElem? (i := 824) (by decide +kernel)⟩
theorem lw_p46 : lw_okq (⟨"TreemapLayoutModel", "mix", "(I)V"⟩, 18) := ⟨⟨by decide +kernel, by decide +kernel⟩, List.mem_of_getElem? (i := 575) (by decide +kernel), List.mem_of_getElem? (i := 857) (by decide +kernel), List.mem_of_getElem? (i := 858) (by decide +kernel)⟩
def lw_privs_3 : List (MethodName × Nat) := [(⟨"TreemapLayoutModel", "laysChildren", "(I)V"⟩, 18), (⟨"TreemapLayoutModel", "laysRow", "(IIIIIIZ)V"⟩, 18), (⟨"TreemapLayoutModel", "laysSizes", "(II)V"⟩, 18), (⟨"TreemapLayoutModel", "parts", "(II)V"⟩, 18), (⟨"TreemapLayoutModel", "laysStrips", "(IIIII)V"⟩, 18), (⟨"TreemapLayoutModel", "average", "(IIFI)F"⟩, 18), (⟨"TreemapLayoutModel", "aspect", "(IIIFI)F"⟩, 18), (⟨"TreemapLayoutModel", "sumOf", "(II)I"⟩, 18), (⟨"TreemapLayoutModel", "laysSquares", "(IIII)V"⟩, 18), (⟨"TreemapLayoutModel", "sorts", "()V"⟩, 18), (⟨"TreemapLayoutModel", "rowOf", "(IFI)I"⟩, 18), (⟨"TreemapLayoutModel", "worst", "(IIFI)F"⟩, 18), (⟨"TreemapLayoutModel", "pixels", "()I"⟩, 18), (⟨"TreemapLayoutModel", "aspects", "(Z)I"⟩, 18), (⟨"TreemapLayoutModel", "mix", "(I)V"⟩, 18)]
theorem lw_r3 : ∀ q ∈ lw_privs_3, lw_okq q := List.forall_mem_cons.mpr ⟨lw_p32, List.forall_mem_cons.mpr ⟨lw_p33, List.forall_mem_cons.mpr ⟨lw_p34, List.forall_mem_cons.mpr ⟨lw_p35, List.forall_mem_cons.mpr ⟨lw_p36, List.forall_mem_cons.mpr ⟨lw_p37, List.forall_mem_cons.mpr ⟨lw_p38, List.forall_mem_cons.mpr ⟨lw_p39, List.forall_mem_cons.mpr ⟨lw_p40, List.forall_mem_cons.mpr ⟨lw_p41, List.forall_mem_cons.mpr ⟨lw_p42, List.forall_mem_cons.mpr ⟨lw_p43, List.forall_mem_cons.mpr ⟨lw_p44, List.forall_mem_cons.mpr ⟨lw_p45, List.forall_mem_cons.mpr ⟨lw_p46, fun _ h => absurd h List.not_mem_nil⟩⟩⟩⟩⟩⟩⟩⟩⟩⟩⟩⟩⟩⟩⟩
def lw_privs : List (MethodName × Nat) := lw_privs_1 ++ (lw_privs_2 ++ (lw_privs_3))
def lw_tbl : List Cond := k2_sels lw_privs ++ tables_1
theorem lw_privs_ok : ∀ q ∈ lw_privs, lw_okq q := by
  show ∀ q ∈ lw_privs_1 ++ (lw_privs_2 ++ (lw_privs_3)), lw_okq q
  exact List.forall_mem_append.mpr ⟨lw_r1, List.forall_mem_append.mpr ⟨lw_r2, lw_r3⟩⟩
/-- the streams that the claim lets the run draw from -/
abbrev lw_cs : List Choice := [Jvm.Choice.named "NaN.bits"]
theorem lw_bits : nanBits ∈ lw_cs := by first | decide | exact List.mem_cons_self | simp [lw_cs, nanBits]
end
section
/-! ===== BEGIN words of one list among another's, by their places ===== -/
theorem goodIn_r {big : List Cond} (ws : List Cond) (ps : List Nat) (hp : ws = ps.filterMap (fun i => big[i]?)) (h : ws.all goodWord = true) : GoodIn big ws := by
  intro w hw
  have h1 := List.all_eq_true.mp h w hw
  rw [hp] at hw
  obtain ⟨i, -, hi⟩ := List.mem_filterMap.mp hw
  have hm : w ∈ big := by first | exact List.mem_of_getElem? hi | exact List.getElem?_mem hi
  exact ⟨hm, good_of_word h1⟩
theorem goodIn_app {big a b : List Cond} (ha : GoodIn big a) (hb : GoodIn big b) : GoodIn big (a ++ b) := fun w h => (List.mem_append.mp h).elim (ha w) (hb w)
theorem goodIn_ca {big a b : List Cond} {c : Cond} (ha : GoodIn big (c :: a)) (hb : GoodIn big b) : GoodIn big (c :: (a ++ b)) := fun w h => (List.mem_cons.mp h).elim (fun e => ha w (List.mem_cons.mpr (Or.inl e))) (fun h => (List.mem_append.mp h).elim (fun h => ha w (List.mem_cons.mpr (Or.inr h))) (hb w))
theorem goodIn_sub {big ws : List Cond} (hm : ∀ w ∈ ws, w ∈ big) (h : ws.all goodWord = true) : GoodIn big ws := fun w hw => ⟨hm w hw, good_of_word (List.all_eq_true.mp h w hw)⟩
/-! ===== END ===== -/

/-! ===== BEGIN printed: names, fields, word lists, decode rows ===== -/
def RX0 : String := "TreemapLayout$Box"
def TX0 : u_T := fun k => match k with
  | 0 => ("TreemapLayout$Box", "left", "I", false)
  | 1 => ("TreemapLayout$Box", "top", "I", false)
  | 2 => ("TreemapLayout$Box", "wide", "I", false)
  | _ => ("TreemapLayout$Box", "high", "I", false)
def tyX0 : Nat → FieldType := fun k => match k with
  | 0 => .int
  | 1 => .int
  | 2 => .int
  | _ => .int
abbrev wsX00 : List Cond := u_ws RX0 TX0 4
theorem nmX0 : ∀ a, a < 4 → ∀ b, b < 4 → a ≠ b → (TX0 a).2.1 ≠ (TX0 b).2.1 := by decide +kernel
theorem tyX0_ok : ∀ k, k < 4 → parseFieldDescriptor (TX0 k).2.2.1 = some (tyX0 k) := by decide +kernel
abbrev cX0_init : ByteArray := prog_2_method_1_code
def yX0_init : MethodName := ⟨RX0, "<init>", "()V"⟩
abbrev cX0_set : ByteArray := prog_2_method_2_code
def yX0_set : MethodName := ⟨RX0, "set", "(IIII)V"⟩
abbrev cX0_isEmpty : ByteArray := prog_2_method_3_code
def yX0_isEmpty : MethodName := ⟨RX0, "isEmpty", "()Z"⟩
def RX1 : String := "TreemapLayout$Layout"
def TX1 : u_T := fun k => match k with
  | 0 => ("TreemapLayout$Layout", "sizes", "[I", true)
  | 1 => ("TreemapLayout$Layout", "depths", "[I", true)
  | 2 => ("TreemapLayout$Layout", "hidden", "[Z", true)
  | 3 => ("TreemapLayout$Layout", "rects", "LTreemapLayout$Rects;", true)
  | 4 => ("TreemapLayout$Layout", "order", "[I", true)
  | 5 => ("TreemapLayout$Layout", "firstChildren", "[I", true)
  | 6 => ("TreemapLayout$Layout", "childCounts", "[I", true)
  | _ => ("TreemapLayout$Layout", "placer", "LTreemapLayout$Placer;", true)
def tyX1 : Nat → FieldType := fun k => match k with
  | 0 => .array .int
  | 1 => .array .int
  | 2 => .array .boolean
  | 3 => .object "TreemapLayout$Rects"
  | 4 => .array .int
  | 5 => .array .int
  | 6 => .array .int
  | _ => .object "TreemapLayout$Placer"
abbrev wsX10 : List Cond := u_ws RX1 TX1 8
theorem nmX1 : ∀ a, a < 8 → ∀ b, b < 8 → a ≠ b → (TX1 a).2.1 ≠ (TX1 b).2.1 := by decide +kernel
theorem tyX1_ok : ∀ k, k < 8 → parseFieldDescriptor (TX1 k).2.2.1 = some (tyX1 k) := by decide +kernel
abbrev cX1_init : ByteArray := prog_3_method_1_code
def yX1_init : MethodName := ⟨RX1, "<init>", "()V"⟩
abbrev cX1_isLeaf : ByteArray := prog_3_method_2_code
def yX1_isLeaf : MethodName := ⟨RX1, "isLeaf", "(I)Z"⟩
abbrev cX1_isLeafWithArea : ByteArray := prog_3_method_3_code
def yX1_isLeafWithArea : MethodName := ⟨RX1, "isLeafWithArea", "(I)Z"⟩
abbrev cX1_arrange : ByteArray := prog_3_method_4_code
def yX1_arrange : MethodName := ⟨RX1, "arrange", "(LTreemapLayout$State;)V"⟩
abbrev cX1_orderNodes : ByteArray := prog_3_method_5_code
def yX1_orderNodes : MethodName := ⟨RX1, "orderNodes", "(LTreemapLayout$State;)V"⟩
abbrev cX1_sumSizes : ByteArray := prog_3_method_6_code
def yX1_sumSizes : MethodName := ⟨RX1, "sumSizes", "(LTreemapLayout$State;)V"⟩
abbrev cX1_placeChildren : ByteArray := prog_3_method_7_code
def yX1_placeChildren : MethodName := ⟨RX1, "placeChildren", "(ILTreemapLayout$State;)V"⟩
def RX2 : String := "TreemapLayout$Placer"
def TX2 : u_T := fun k => match k with
  | 0 => ("TreemapLayout$Placer", "kids", "[I", true)
  | 1 => ("TreemapLayout$Placer", "kidSizes", "[I", true)
  | 2 => ("TreemapLayout$Placer", "kidCount", "I", false)
  | 3 => ("TreemapLayout$Placer", "free", "LTreemapLayout$Box;", true)
  | 4 => ("TreemapLayout$Placer", "band", "LTreemapLayout$Box;", true)
  | 5 => ("TreemapLayout$Placer", "kidShares", "LTreemapLayout$Shares;", true)
  | 6 => ("TreemapLayout$Placer", "stripShares", "LTreemapLayout$Shares;", true)
  | _ => ("TreemapLayout$Placer", "stripEnds", "[I", true)
def tyX2 : Nat → FieldType := fun k => match k with
  | 0 => .array .int
  | 1 => .array .int
  | 2 => .int
  | 3 => .object "TreemapLayout$Box"
  | 4 => .object "TreemapLayout$Box"
  | 5 => .object "TreemapLayout$Shares"
  | 6 => .object "TreemapLayout$Shares"
  | _ => .array .int
abbrev wsX20 : List Cond := u_ws RX2 TX2 8
theorem nmX2 : ∀ a, a < 8 → ∀ b, b < 8 → a ≠ b → (TX2 a).2.1 ≠ (TX2 b).2.1 := by decide +kernel
theorem tyX2_ok : ∀ k, k < 8 → parseFieldDescriptor (TX2 k).2.2.1 = some (tyX2 k) := by decide +kernel
abbrev cX2_init : ByteArray := prog_4_method_1_code
def yX2_init : MethodName := ⟨RX2, "<init>", "()V"⟩
abbrev cX2_open : ByteArray := prog_4_method_2_code
def yX2_open : MethodName := ⟨RX2, "open", "(IIII)V"⟩
abbrev cX2_hasNoRoom : ByteArray := prog_4_method_3_code
def yX2_hasNoRoom : MethodName := ⟨RX2, "hasNoRoom", "()Z"⟩
abbrev cX2_add : ByteArray := prog_4_method_4_code
def yX2_add : MethodName := ⟨RX2, "add", "(II)V"⟩
abbrev cX2_slice : ByteArray := prog_4_method_5_code
def yX2_slice : MethodName := ⟨RX2, "slice", "(ZLTreemapLayout$Rects;)V"⟩
abbrev cX2_strip : ByteArray := prog_4_method_6_code
def yX2_strip : MethodName := ⟨RX2, "strip", "(LTreemapLayout$Rects;)V"⟩
abbrev cX2_splitIntoStrips : ByteArray := prog_4_method_7_code
def yX2_splitIntoStrips : MethodName := ⟨RX2, "splitIntoStrips", "()V"⟩
abbrev cX2_averageRatio : ByteArray := prog_4_method_8_code
def yX2_averageRatio : MethodName := ⟨RX2, "averageRatio", "(IIF)F"⟩
abbrev cX2_squarify : ByteArray := prog_4_method_9_code
def yX2_squarify : MethodName := ⟨RX2, "squarify", "(LTreemapLayout$Rects;)V"⟩
abbrev cX2_sortByFallingSize : ByteArray := prog_4_method_10_code
def yX2_sortByFallingSize : MethodName := ⟨RX2, "sortByFallingSize", "()V"⟩
abbrev cX2_endOfRow : ByteArray := prog_4_method_11_code
def yX2_endOfRow : MethodName := ⟨RX2, "endOfRow", "(I)I"⟩
abbrev cX2_worstRatio : ByteArray := prog_4_method_12_code
def yX2_worstRatio : MethodName := ⟨RX2, "worstRatio", "(IIFI)F"⟩
abbrev cX2_cutBand : ByteArray := prog_4_method_13_code
def yX2_cutBand : MethodName := ⟨RX2, "cutBand", "(IIZ)V"⟩
abbrev cX2_rowThickness : ByteArray := prog_4_method_14_code
def yX2_rowThickness : MethodName := ⟨RX2, "rowThickness", "(III)I"⟩
abbrev cX2_collapse : ByteArray := prog_4_method_15_code
def yX2_collapse : MethodName := ⟨RX2, "collapse", "(ILTreemapLayout$Rects;)V"⟩
abbrev cX2_fillBand : ByteArray := prog_4_method_16_code
def yX2_fillBand : MethodName := ⟨RX2, "fillBand", "(IIZLTreemapLayout$Rects;)V"⟩
abbrev cX2_pixelsPerSize : ByteArray := prog_4_method_17_code
def yX2_pixelsPerSize : MethodName := ⟨RX2, "pixelsPerSize", "(I)F"⟩
abbrev cX2_thicknessOf : ByteArray := prog_4_method_18_code
def yX2_thicknessOf : MethodName := ⟨RX2, "thicknessOf", "(IFI)F"⟩
abbrev cX2_ratio : ByteArray := prog_4_method_19_code
def yX2_ratio : MethodName := ⟨RX2, "ratio", "(IFF)F"⟩
abbrev cX2_sumOfSizes : ByteArray := prog_4_method_20_code
def yX2_sumOfSizes : MethodName := ⟨RX2, "sumOfSizes", "(II)I"⟩
def RX3 : String := "TreemapLayout$Rects"
def TX3 : u_T := fun k => match k with
  | 0 => ("TreemapLayout$Rects", "lefts", "[I", true)
  | 1 => ("TreemapLayout$Rects", "tops", "[I", true)
  | 2 => ("TreemapLayout$Rects", "widths", "[I", true)
  | _ => ("TreemapLayout$Rects", "heights", "[I", true)
def tyX3 : Nat → FieldType := fun k => match k with
  | 0 => .array .int
  | 1 => .array .int
  | 2 => .array .int
  | _ => .array .int
abbrev wsX30 : List Cond := u_ws RX3 TX3 4
theorem nmX3 : ∀ a, a < 4 → ∀ b, b < 4 → a ≠ b → (TX3 a).2.1 ≠ (TX3 b).2.1 := by decide +kernel
theorem tyX3_ok : ∀ k, k < 4 → parseFieldDescriptor (TX3 k).2.2.1 = some (tyX3 k) := by decide +kernel
abbrev cX3_init : ByteArray := prog_5_method_1_code
def yX3_init : MethodName := ⟨RX3, "<init>", "()V"⟩
abbrev cX3_put : ByteArray := prog_5_method_2_code
def yX3_put : MethodName := ⟨RX3, "put", "(IIIII)V"⟩
abbrev cX3_contain : ByteArray := prog_5_method_3_code
def yX3_contain : MethodName := ⟨RX3, "contain", "(III)Z"⟩
abbrev cX3_area : ByteArray := prog_5_method_4_code
def yX3_area : MethodName := ⟨RX3, "area", "(I)I"⟩
abbrev cX3_aspect : ByteArray := prog_5_method_5_code
def yX3_aspect : MethodName := ⟨RX3, "aspect", "(I)F"⟩
abbrev cX3_difference : ByteArray := prog_5_method_6_code
def yX3_difference : MethodName := ⟨RX3, "difference", "(ILTreemapLayout$Rects;)I"⟩
def RX4 : String := "TreemapLayout$Shares"
def TX4 : u_T := fun k => match k with
  | 0 => ("TreemapLayout$Shares", "partSizes", "[I", true)
  | 1 => ("TreemapLayout$Shares", "remainders", "[I", true)
  | 2 => ("TreemapLayout$Shares", "pixels", "[I", true)
  | _ => ("TreemapLayout$Shares", "count", "I", false)
def tyX4 : Nat → FieldType := fun k => match k with
  | 0 => .array .int
  | 1 => .array .int
  | 2 => .array .int
  | _ => .int
abbrev wsX40 : List Cond := u_ws RX4 TX4 4
theorem nmX4 : ∀ a, a < 4 → ∀ b, b < 4 → a ≠ b → (TX4 a).2.1 ≠ (TX4 b).2.1 := by decide +kernel
theorem tyX4_ok : ∀ k, k < 4 → parseFieldDescriptor (TX4 k).2.2.1 = some (tyX4 k) := by decide +kernel
abbrev cX4_init : ByteArray := prog_6_method_1_code
def yX4_init : MethodName := ⟨RX4, "<init>", "()V"⟩
abbrev cX4_clear : ByteArray := prog_6_method_2_code
def yX4_clear : MethodName := ⟨RX4, "clear", "()V"⟩
abbrev cX4_add : ByteArray := prog_6_method_3_code
def yX4_add : MethodName := ⟨RX4, "add", "(I)V"⟩
abbrev cX4_apportion : ByteArray := prog_6_method_4_code
def yX4_apportion : MethodName := ⟨RX4, "apportion", "(I)V"⟩
abbrev cX4_largestRemainder : ByteArray := prog_6_method_5_code
def yX4_largestRemainder : MethodName := ⟨RX4, "largestRemainder", "()I"⟩
def RX5 : String := "TreemapLayout$State"
def TX5 : u_T := fun k => match k with
  | 0 => ("TreemapLayout$State", "ownSizes", "[I", true)
  | 1 => ("TreemapLayout$State", "parents", "[I", true)
  | 2 => ("TreemapLayout$State", "count", "I", false)
  | 3 => ("TreemapLayout$State", "canvasWidth", "I", false)
  | 4 => ("TreemapLayout$State", "canvasHeight", "I", false)
  | 5 => ("TreemapLayout$State", "padding", "I", false)
  | _ => ("TreemapLayout$State", "mode", "I", false)
def tyX5 : Nat → FieldType := fun k => match k with
  | 0 => .array .int
  | 1 => .array .int
  | 2 => .int
  | 3 => .int
  | 4 => .int
  | 5 => .int
  | _ => .int
abbrev wsX50 : List Cond := u_ws RX5 TX5 7
theorem nmX5 : ∀ a, a < 7 → ∀ b, b < 7 → a ≠ b → (TX5 a).2.1 ≠ (TX5 b).2.1 := by decide +kernel
theorem tyX5_ok : ∀ k, k < 7 → parseFieldDescriptor (TX5 k).2.2.1 = some (tyX5 k) := by decide +kernel
abbrev cX5_init : ByteArray := prog_7_method_1_code
def yX5_init : MethodName := ⟨RX5, "<init>", "()V"⟩
abbrev cX5_copyFrom : ByteArray := prog_7_method_2_code
def yX5_copyFrom : MethodName := ⟨RX5, "copyFrom", "(LTreemapLayout$State;)V"⟩
abbrev cX5_has : ByteArray := prog_7_method_3_code
def yX5_has : MethodName := ⟨RX5, "has", "(I)Z"⟩
abbrev cX5_isWithin : ByteArray := prog_7_method_4_code
def yX5_isWithin : MethodName := ⟨RX5, "isWithin", "(II)Z"⟩
abbrev cX5_append : ByteArray := prog_7_method_5_code
def yX5_append : MethodName := ⟨RX5, "append", "(II)V"⟩
abbrev cX5_takeOut : ByteArray := prog_7_method_6_code
def yX5_takeOut : MethodName := ⟨RX5, "takeOut", "(I)V"⟩
def RX6 : String := "TreemapLayout$UndoStack"
def TX6 : u_T := fun k => match k with
  | 0 => ("TreemapLayout$UndoStack", "slots", "[LTreemapLayout$State;", true)
  | 1 => ("TreemapLayout$UndoStack", "next", "I", false)
  | _ => ("TreemapLayout$UndoStack", "count", "I", false)
def tyX6 : Nat → FieldType := fun k => match k with
  | 0 => .array (.object "TreemapLayout$State")
  | 1 => .int
  | _ => .int
abbrev wsX60 : List Cond := u_ws RX6 TX6 3
theorem nmX6 : ∀ a, a < 3 → ∀ b, b < 3 → a ≠ b → (TX6 a).2.1 ≠ (TX6 b).2.1 := by decide +kernel
theorem tyX6_ok : ∀ k, k < 3 → parseFieldDescriptor (TX6 k).2.2.1 = some (tyX6 k) := by decide +kernel
abbrev cX6_init : ByteArray := prog_8_method_1_code
def yX6_init : MethodName := ⟨RX6, "<init>", "()V"⟩
abbrev cX6_push : ByteArray := prog_8_method_2_code
def yX6_push : MethodName := ⟨RX6, "push", "(LTreemapLayout$State;)V"⟩
abbrev cX6_popInto : ByteArray := prog_8_method_3_code
def yX6_popInto : MethodName := ⟨RX6, "popInto", "(LTreemapLayout$State;)V"⟩
def RX7 : String := "TreemapLayout"
def TX7 : u_T := fun k => match k with
  | 0 => ("TreemapLayout", "state", "LTreemapLayout$State;", true)
  | 1 => ("TreemapLayout", "layout", "LTreemapLayout$Layout;", true)
  | 2 => ("TreemapLayout", "saved", "LTreemapLayout$UndoStack;", true)
  | 3 => ("TreemapLayout", "trialState", "LTreemapLayout$State;", true)
  | 4 => ("TreemapLayout", "trialLayout", "LTreemapLayout$Layout;", true)
  | 5 => ("TreemapLayout", "invalidCalls", "I", false)
  | 6 => ("TreemapLayout", "rejectedCalls", "I", false)
  | _ => ("TreemapLayout", "fullCalls", "I", false)
def tyX7 : Nat → FieldType := fun k => match k with
  | 0 => .object "TreemapLayout$State"
  | 1 => .object "TreemapLayout$Layout"
  | 2 => .object "TreemapLayout$UndoStack"
  | 3 => .object "TreemapLayout$State"
  | 4 => .object "TreemapLayout$Layout"
  | 5 => .int
  | 6 => .int
  | _ => .int
abbrev wsX70 : List Cond := u_ws RX7 TX7 8
theorem nmX7 : ∀ a, a < 8 → ∀ b, b < 8 → a ≠ b → (TX7 a).2.1 ≠ (TX7 b).2.1 := by decide +kernel
theorem tyX7_ok : ∀ k, k < 8 → parseFieldDescriptor (TX7 k).2.2.1 = some (tyX7 k) := by decide +kernel
abbrev cX7_init : ByteArray := prog_1_method_1_code
def yX7_init : MethodName := ⟨RX7, "<init>", "()V"⟩
abbrev cX7_addNode : ByteArray := prog_1_method_2_code
def yX7_addNode : MethodName := ⟨RX7, "addNode", "(II)I"⟩
abbrev cX7_setSize : ByteArray := prog_1_method_3_code
def yX7_setSize : MethodName := ⟨RX7, "setSize", "(II)I"⟩
abbrev cX7_removeLeaf : ByteArray := prog_1_method_4_code
def yX7_removeLeaf : MethodName := ⟨RX7, "removeLeaf", "(I)I"⟩
abbrev cX7_setParent : ByteArray := prog_1_method_5_code
def yX7_setParent : MethodName := ⟨RX7, "setParent", "(II)I"⟩
abbrev cX7_setCanvas : ByteArray := prog_1_method_6_code
def yX7_setCanvas : MethodName := ⟨RX7, "setCanvas", "(II)I"⟩
abbrev cX7_setPadding : ByteArray := prog_1_method_7_code
def yX7_setPadding : MethodName := ⟨RX7, "setPadding", "(I)I"⟩
abbrev cX7_setMode : ByteArray := prog_1_method_8_code
def yX7_setMode : MethodName := ⟨RX7, "setMode", "(I)I"⟩
abbrev cX7_nodeCount : ByteArray := prog_1_method_9_code
def yX7_nodeCount : MethodName := ⟨RX7, "nodeCount", "()I"⟩
abbrev cX7_size : ByteArray := prog_1_method_10_code
def yX7_size : MethodName := ⟨RX7, "size", "(I)I"⟩
abbrev cX7_parent : ByteArray := prog_1_method_11_code
def yX7_parent : MethodName := ⟨RX7, "parent", "(I)I"⟩
abbrev cX7_depth : ByteArray := prog_1_method_12_code
def yX7_depth : MethodName := ⟨RX7, "depth", "(I)I"⟩
abbrev cX7_leafCount : ByteArray := prog_1_method_13_code
def yX7_leafCount : MethodName := ⟨RX7, "leafCount", "()I"⟩
abbrev cX7_x : ByteArray := prog_1_method_14_code
def yX7_x : MethodName := ⟨RX7, "x", "(I)I"⟩
abbrev cX7_y : ByteArray := prog_1_method_15_code
def yX7_y : MethodName := ⟨RX7, "y", "(I)I"⟩
abbrev cX7_width : ByteArray := prog_1_method_16_code
def yX7_width : MethodName := ⟨RX7, "width", "(I)I"⟩
abbrev cX7_height : ByteArray := prog_1_method_17_code
def yX7_height : MethodName := ⟨RX7, "height", "(I)I"⟩
abbrev cX7_isHidden : ByteArray := prog_1_method_18_code
def yX7_isHidden : MethodName := ⟨RX7, "isHidden", "(I)I"⟩
abbrev cX7_nodeAt : ByteArray := prog_1_method_19_code
def yX7_nodeAt : MethodName := ⟨RX7, "nodeAt", "(II)I"⟩
abbrev cX7_leafPixels : ByteArray := prog_1_method_20_code
def yX7_leafPixels : MethodName := ⟨RX7, "leafPixels", "()I"⟩
abbrev cX7_worstAspect : ByteArray := prog_1_method_21_code
def yX7_worstAspect : MethodName := ⟨RX7, "worstAspect", "()I"⟩
abbrev cX7_averageAspect : ByteArray := prog_1_method_22_code
def yX7_averageAspect : MethodName := ⟨RX7, "averageAspect", "()I"⟩
abbrev cX7_changeBy : ByteArray := prog_1_method_23_code
def yX7_changeBy : MethodName := ⟨RX7, "changeBy", "(II)I"⟩
abbrev cX7_undo : ByteArray := prog_1_method_24_code
def yX7_undo : MethodName := ⟨RX7, "undo", "()I"⟩
abbrev cX7_errorCount : ByteArray := prog_1_method_25_code
def yX7_errorCount : MethodName := ⟨RX7, "errorCount", "(I)I"⟩
abbrev cX7_digest : ByteArray := prog_1_method_26_code
def yX7_digest : MethodName := ⟨RX7, "digest", "()J"⟩
abbrev cX7_mixNode : ByteArray := prog_1_method_27_code
def yX7_mixNode : MethodName := ⟨RX7, "mixNode", "(JI)J"⟩
abbrev cX7_mix : ByteArray := prog_1_method_28_code
def yX7_mix : MethodName := ⟨RX7, "mix", "(JI)J"⟩
abbrev cX7_hiddenFlag : ByteArray := prog_1_method_29_code
def yX7_hiddenFlag : MethodName := ⟨RX7, "hiddenFlag", "(I)I"⟩
abbrev cX7_failInvalid : ByteArray := prog_1_method_30_code
def yX7_failInvalid : MethodName := ⟨RX7, "failInvalid", "()I"⟩
abbrev cX7_failRejected : ByteArray := prog_1_method_31_code
def yX7_failRejected : MethodName := ⟨RX7, "failRejected", "()I"⟩
abbrev cX7_failFull : ByteArray := prog_1_method_32_code
def yX7_failFull : MethodName := ⟨RX7, "failFull", "()I"⟩
abbrev cX7_isSize : ByteArray := prog_1_method_33_code
def yX7_isSize : MethodName := ⟨RX7, "isSize", "(I)Z"⟩
abbrev cX7_isSide : ByteArray := prog_1_method_34_code
def yX7_isSide : MethodName := ⟨RX7, "isSide", "(I)Z"⟩
abbrev cX7_floatBits : ByteArray := prog_1_method_35_code
def yX7_floatBits : MethodName := ⟨RX7, "floatBits", "(F)I"⟩
def RX8 : String := "TreemapLayoutModel"
def TX8 : u_T := fun k => match k with
  | 0 => ("TreemapLayoutModel", "now", "[I", true)
  | 1 => ("TreemapLayoutModel", "past", "[I", true)
  | 2 => ("TreemapLayoutModel", "saved", "I", false)
  | 3 => ("TreemapLayoutModel", "errors", "[I", true)
  | 4 => ("TreemapLayoutModel", "sizes", "[I", true)
  | 5 => ("TreemapLayoutModel", "lengths", "[I", true)
  | 6 => ("TreemapLayoutModel", "xs", "[I", true)
  | 7 => ("TreemapLayoutModel", "ys", "[I", true)
  | 8 => ("TreemapLayoutModel", "wides", "[I", true)
  | 9 => ("TreemapLayoutModel", "highs", "[I", true)
  | 10 => ("TreemapLayoutModel", "hidden", "[Z", true)
  | 11 => ("TreemapLayoutModel", "allSizes", "[I", true)
  | 12 => ("TreemapLayoutModel", "children", "[I", true)
  | 13 => ("TreemapLayoutModel", "many", "I", false)
  | 14 => ("TreemapLayoutModel", "strips", "[I", true)
  | 15 => ("TreemapLayoutModel", "heights", "[I", true)
  | 16 => ("TreemapLayoutModel", "before", "[I", true)
  | _ => ("TreemapLayoutModel", "hash", "J", false)
def tyX8 : Nat → FieldType := fun k => match k with
  | 0 => .array .int
  | 1 => .array .int
  | 2 => .int
  | 3 => .array .int
  | 4 => .array .int
  | 5 => .array .int
  | 6 => .array .int
  | 7 => .array .int
  | 8 => .array .int
  | 9 => .array .int
  | 10 => .array .boolean
  | 11 => .array .int
  | 12 => .array .int
  | 13 => .int
  | 14 => .array .int
  | 15 => .array .int
  | 16 => .array .int
  | _ => .long
abbrev wsX80 : List Cond := u_ws RX8 TX8 18
theorem nmX8 : ∀ a, a < 18 → ∀ b, b < 18 → a ≠ b → (TX8 a).2.1 ≠ (TX8 b).2.1 := by decide +kernel
theorem tyX8_ok : ∀ k, k < 18 → parseFieldDescriptor (TX8 k).2.2.1 = some (tyX8 k) := by decide +kernel
abbrev cX8_init : ByteArray := prog_10_method_1_code
def yX8_init : MethodName := ⟨RX8, "<init>", "()V"⟩
abbrev cX8_within : ByteArray := prog_10_method_3_code
def yX8_within : MethodName := ⟨RX8, "within", "(III)Z"⟩
abbrev cX8_fails : ByteArray := prog_10_method_4_code
def yX8_fails : MethodName := ⟨RX8, "fails", "(I)I"⟩
abbrev cX8_isNode : ByteArray := prog_10_method_5_code
def yX8_isNode : MethodName := ⟨RX8, "isNode", "(I)Z"⟩
abbrev cX8_saves : ByteArray := prog_10_method_6_code
def yX8_saves : MethodName := ⟨RX8, "saves", "()V"⟩
abbrev cX8_undo : ByteArray := prog_10_method_7_code
def yX8_undo : MethodName := ⟨RX8, "undo", "()I"⟩
abbrev cX8_childMany : ByteArray := prog_10_method_8_code
def yX8_childMany : MethodName := ⟨RX8, "childMany", "(I)I"⟩
abbrev cX8_sizeOf : ByteArray := prog_10_method_9_code
def yX8_sizeOf : MethodName := ⟨RX8, "sizeOf", "(I)I"⟩
abbrev cX8_isUnder : ByteArray := prog_10_method_10_code
def yX8_isUnder : MethodName := ⟨RX8, "isUnder", "(II)Z"⟩
abbrev cX8_depthOf : ByteArray := prog_10_method_11_code
def yX8_depthOf : MethodName := ⟨RX8, "depthOf", "(I)I"⟩
abbrev cX8_addNode : ByteArray := prog_10_method_12_code
def yX8_addNode : MethodName := ⟨RX8, "addNode", "(II)I"⟩
abbrev cX8_changes : ByteArray := prog_10_method_13_code
def yX8_changes : MethodName := ⟨RX8, "changes", "(II)I"⟩
abbrev cX8_setSize : ByteArray := prog_10_method_14_code
def yX8_setSize : MethodName := ⟨RX8, "setSize", "(II)I"⟩
abbrev cX8_removeLeaf : ByteArray := prog_10_method_15_code
def yX8_removeLeaf : MethodName := ⟨RX8, "removeLeaf", "(I)I"⟩
abbrev cX8_setParent : ByteArray := prog_10_method_16_code
def yX8_setParent : MethodName := ⟨RX8, "setParent", "(II)I"⟩
abbrev cX8_setCanvas : ByteArray := prog_10_method_17_code
def yX8_setCanvas : MethodName := ⟨RX8, "setCanvas", "(II)I"⟩
abbrev cX8_setPadding : ByteArray := prog_10_method_18_code
def yX8_setPadding : MethodName := ⟨RX8, "setPadding", "(I)I"⟩
abbrev cX8_setMode : ByteArray := prog_10_method_19_code
def yX8_setMode : MethodName := ⟨RX8, "setMode", "(I)I"⟩
abbrev cX8_nodeCount : ByteArray := prog_10_method_20_code
def yX8_nodeCount : MethodName := ⟨RX8, "nodeCount", "()I"⟩
abbrev cX8_size : ByteArray := prog_10_method_21_code
def yX8_size : MethodName := ⟨RX8, "size", "(I)I"⟩
abbrev cX8_parent : ByteArray := prog_10_method_22_code
def yX8_parent : MethodName := ⟨RX8, "parent", "(I)I"⟩
abbrev cX8_depth : ByteArray := prog_10_method_23_code
def yX8_depth : MethodName := ⟨RX8, "depth", "(I)I"⟩
abbrev cX8_leaves : ByteArray := prog_10_method_24_code
def yX8_leaves : MethodName := ⟨RX8, "leaves", "()I"⟩
abbrev cX8_leafCount : ByteArray := prog_10_method_25_code
def yX8_leafCount : MethodName := ⟨RX8, "leafCount", "()I"⟩
abbrev cX8_parts : ByteArray := prog_10_method_26_code
def yX8_parts : MethodName := ⟨RX8, "parts", "(II)V"⟩
abbrev cX8_puts : ByteArray := prog_10_method_27_code
def yX8_puts : MethodName := ⟨RX8, "puts", "(IIIII)V"⟩
abbrev cX8_laysChildren : ByteArray := prog_10_method_28_code
def yX8_laysChildren : MethodName := ⟨RX8, "laysChildren", "(I)V"⟩
abbrev cX8_laysSizes : ByteArray := prog_10_method_29_code
def yX8_laysSizes : MethodName := ⟨RX8, "laysSizes", "(II)V"⟩
abbrev cX8_sumOf : ByteArray := prog_10_method_30_code
def yX8_sumOf : MethodName := ⟨RX8, "sumOf", "(II)I"⟩
abbrev cX8_laysRow : ByteArray := prog_10_method_31_code
def yX8_laysRow : MethodName := ⟨RX8, "laysRow", "(IIIIIIZ)V"⟩
abbrev cX8_aspect : ByteArray := prog_10_method_32_code
def yX8_aspect : MethodName := ⟨RX8, "aspect", "(IIIFI)F"⟩
abbrev cX8_average : ByteArray := prog_10_method_33_code
def yX8_average : MethodName := ⟨RX8, "average", "(IIFI)F"⟩
abbrev cX8_worst : ByteArray := prog_10_method_34_code
def yX8_worst : MethodName := ⟨RX8, "worst", "(IIFI)F"⟩
abbrev cX8_laysStrips : ByteArray := prog_10_method_35_code
def yX8_laysStrips : MethodName := ⟨RX8, "laysStrips", "(IIIII)V"⟩
abbrev cX8_sorts : ByteArray := prog_10_method_36_code
def yX8_sorts : MethodName := ⟨RX8, "sorts", "()V"⟩
abbrev cX8_rowOf : ByteArray := prog_10_method_37_code
def yX8_rowOf : MethodName := ⟨RX8, "rowOf", "(IFI)I"⟩
abbrev cX8_laysSquares : ByteArray := prog_10_method_38_code
def yX8_laysSquares : MethodName := ⟨RX8, "laysSquares", "(IIII)V"⟩
abbrev cX8_laysUnder : ByteArray := prog_10_method_39_code
def yX8_laysUnder : MethodName := ⟨RX8, "laysUnder", "(II)V"⟩
abbrev cX8_lays : ByteArray := prog_10_method_40_code
def yX8_lays : MethodName := ⟨RX8, "lays", "()V"⟩
abbrev cX8_x : ByteArray := prog_10_method_41_code
def yX8_x : MethodName := ⟨RX8, "x", "(I)I"⟩
abbrev cX8_y : ByteArray := prog_10_method_42_code
def yX8_y : MethodName := ⟨RX8, "y", "(I)I"⟩
abbrev cX8_width : ByteArray := prog_10_method_43_code
def yX8_width : MethodName := ⟨RX8, "width", "(I)I"⟩
abbrev cX8_height : ByteArray := prog_10_method_44_code
def yX8_height : MethodName := ⟨RX8, "height", "(I)I"⟩
abbrev cX8_isHidden : ByteArray := prog_10_method_45_code
def yX8_isHidden : MethodName := ⟨RX8, "isHidden", "(I)I"⟩
abbrev cX8_nodeAt : ByteArray := prog_10_method_46_code
def yX8_nodeAt : MethodName := ⟨RX8, "nodeAt", "(II)I"⟩
abbrev cX8_pixels : ByteArray := prog_10_method_47_code
def yX8_pixels : MethodName := ⟨RX8, "pixels", "()I"⟩
abbrev cX8_leafPixels : ByteArray := prog_10_method_48_code
def yX8_leafPixels : MethodName := ⟨RX8, "leafPixels", "()I"⟩
abbrev cX8_aspects : ByteArray := prog_10_method_49_code
def yX8_aspects : MethodName := ⟨RX8, "aspects", "(Z)I"⟩
abbrev cX8_worstAspect : ByteArray := prog_10_method_50_code
def yX8_worstAspect : MethodName := ⟨RX8, "worstAspect", "()I"⟩
abbrev cX8_averageAspect : ByteArray := prog_10_method_51_code
def yX8_averageAspect : MethodName := ⟨RX8, "averageAspect", "()I"⟩
abbrev cX8_far : ByteArray := prog_10_method_52_code
def yX8_far : MethodName := ⟨RX8, "far", "(I)I"⟩
abbrev cX8_changeBy : ByteArray := prog_10_method_53_code
def yX8_changeBy : MethodName := ⟨RX8, "changeBy", "(II)I"⟩
abbrev cX8_errorCount : ByteArray := prog_10_method_54_code
def yX8_errorCount : MethodName := ⟨RX8, "errorCount", "(I)I"⟩
abbrev cX8_mix : ByteArray := prog_10_method_55_code
def yX8_mix : MethodName := ⟨RX8, "mix", "(I)V"⟩
abbrev cX8_digest : ByteArray := prog_10_method_56_code
def yX8_digest : MethodName := ⟨RX8, "digest", "()J"⟩
def RJxf58ca : String := "java/lang/Float"
def TJxf58ca : u_T := fun k => match k with
  | _ => ("", "", "", false)
def tyJxf58ca : Nat → FieldType := fun k => match k with
  | _ => .int
abbrev wsJxf58ca0 : List Cond := u_ws RJxf58ca TJxf58ca 0
theorem nmJxf58ca : ∀ a, a < 0 → ∀ b, b < 0 → a ≠ b → (TJxf58ca a).2.1 ≠ (TJxf58ca b).2.1 := by decide +kernel
theorem tyJxf58ca_ok : ∀ k, k < 0 → parseFieldDescriptor (TJxf58ca k).2.2.1 = some (tyJxf58ca k) := by decide +kernel
abbrev cJxf58ca_isNaN_12338 : ByteArray := prog_11_method_6_code
def yJxf58ca_isNaN_12338 : MethodName := ⟨RJxf58ca, "isNaN", "(F)Z"⟩
abbrev cJxf58ca_floatToIntBits_5c35a : ByteArray := prog_11_method_24_code
def yJxf58ca_floatToIntBits_5c35a : MethodName := ⟨RJxf58ca, "floatToIntBits", "(F)I"⟩
def RJ9 : String := "java/lang/Math"
def TJ9 : u_T := fun k => match k with
  | _ => ("", "", "", false)
def tyJ9 : Nat → FieldType := fun k => match k with
  | _ => .int
abbrev wsJ90 : List Cond := u_ws RJ9 TJ9 0
theorem nmJ9 : ∀ a, a < 0 → ∀ b, b < 0 → a ≠ b → (TJ9 a).2.1 ≠ (TJ9 b).2.1 := by decide +kernel
theorem tyJ9_ok : ∀ k, k < 0 → parseFieldDescriptor (TJ9 k).2.2.1 = some (tyJ9 k) := by decide +kernel
abbrev cJ9_abs_0f7a4 : ByteArray := prog_12_method_59_code
def yJ9_abs_0f7a4 : MethodName := ⟨RJ9, "abs", "(I)I"⟩
abbrev cJ9_max_7cf53 : ByteArray := prog_12_method_65_code
def yJ9_max_7cf53 : MethodName := ⟨RJ9, "max", "(II)I"⟩
abbrev cJ9_min_7cf53 : ByteArray := prog_12_method_69_code
def yJ9_min_7cf53 : MethodName := ⟨RJ9, "min", "(II)I"⟩
def RJ10 : String := "java/lang/System"
def TJ10 : u_T := fun k => match k with
  | _ => ("", "", "", false)
def tyJ10 : Nat → FieldType := fun k => match k with
  | _ => .int
abbrev wsJ100 : List Cond := u_ws RJ10 TJ10 0
theorem nmJ10 : ∀ a, a < 0 → ∀ b, b < 0 → a ≠ b → (TJ10 a).2.1 ≠ (TJ10 b).2.1 := by decide +kernel
theorem tyJ10_ok : ∀ k, k < 0 → parseFieldDescriptor (TJ10 k).2.2.1 = some (tyJ10 k) := by decide +kernel
def RL : String := "TreemapLayoutLaw"
abbrev cL_law : ByteArray := code
def yL_law : MethodName := ⟨RL, "law", "([I)Z"⟩
def wsX0_init : List Cond := .code yX0_init cX0_init 1 none :: ([.methodLink RX0 1 objectInit, .instanceMethod objectInit, .code objectInit ⟨#[0xb1]⟩ 1 none])
def wsX0_set : List Cond := .code yX0_set cX0_set 5 none :: ([.fieldLink RX0 7 "TreemapLayout$Box" "left" "I", .fieldLink RX0 13 "TreemapLayout$Box" "top" "I", .fieldLink RX0 16 "TreemapLayout$Box" "wide" "I", .fieldLink RX0 19 "TreemapLayout$Box" "high" "I"] ++ wsX00)
def wsX0_isEmpty : List Cond := .code yX0_isEmpty cX0_isEmpty 1 (some .boolean) :: ([.fieldLink RX0 16 "TreemapLayout$Box" "wide" "I", .fieldLink RX0 19 "TreemapLayout$Box" "high" "I"] ++ wsX00)
def wsX3_init : List Cond := .code yX3_init cX3_init 1 none :: ([.methodLink RX3 3 objectInit, .instanceMethod objectInit, .code objectInit ⟨#[0xb1]⟩ 1 none, .arrayClass .int, .fieldLink RX3 9 "TreemapLayout$Rects" "lefts" "[I", .fieldLink RX3 15 "TreemapLayout$Rects" "tops" "[I", .fieldLink RX3 18 "TreemapLayout$Rects" "widths" "[I", .fieldLink RX3 21 "TreemapLayout$Rects" "heights" "[I"] ++ wsX30)
def wsX4_init : List Cond := .code yX4_init cX4_init 1 none :: ([.methodLink RX4 3 objectInit, .instanceMethod objectInit, .code objectInit ⟨#[0xb1]⟩ 1 none, .arrayClass .int, .fieldLink RX4 9 "TreemapLayout$Shares" "partSizes" "[I", .fieldLink RX4 15 "TreemapLayout$Shares" "remainders" "[I", .fieldLink RX4 18 "TreemapLayout$Shares" "pixels" "[I"] ++ wsX40)
def wsX2_init_r1 : List Cond := [Cond.methodLink RX2 3 objectInit, Cond.instanceMethod objectInit, Cond.code objectInit ⟨#[0xb1]⟩ 1 none, Cond.arrayClass .int, Cond.fieldLink RX2 9 "TreemapLayout$Placer" "kids" "[I", Cond.fieldLink RX2 15 "TreemapLayout$Placer" "kidSizes" "[I", Cond.classLink RX2 18 RX0, Cond.instantiable RX0 4, Cond.initialized RX0, Cond.fieldLink RX2 21 "TreemapLayout$Placer" "free" "LTreemapLayout$Box;", Cond.fieldLink RX2 25 "TreemapLayout$Placer" "band" "LTreemapLayout$Box;", Cond.classLink RX2 28 RX4, Cond.instantiable RX4 4, Cond.initialized RX4, Cond.fieldLink RX2 31 "TreemapLayout$Placer" "kidShares" "LTreemapLayout$Shares;", Cond.fieldLink RX2 35 "TreemapLayout$Placer" "stripShares" "LTreemapLayout$Shares;", Cond.fieldLink RX2 38 "TreemapLayout$Placer" "stripEnds" "[I", Cond.instanceMethod yX0_init, Cond.code yX0_init cX0_init 1 none, Cond.methodLink RX0 1 objectInit, Cond.instanceMethod yX4_init, Cond.code yX4_init cX4_init 1 none, Cond.methodLink RX4 3 objectInit, Cond.fieldLink RX4 9 "TreemapLayout$Shares" "partSizes" "[I"]
def wsX2_init_r2 : List Cond := [Cond.fieldLink RX4 15 "TreemapLayout$Shares" "remainders" "[I", Cond.fieldLink RX4 18 "TreemapLayout$Shares" "pixels" "[I"]
def wsX2_init : List Cond := .code yX2_init cX2_init 1 none :: ((wsX2_init_r1 ++ wsX2_init_r2) ++ wsX20 ++ wsX00 ++ wsX40)
def wsX1_init_r1 : List Cond := [Cond.methodLink RX1 3 objectInit, Cond.instanceMethod objectInit, Cond.code objectInit ⟨#[0xb1]⟩ 1 none, Cond.arrayClass .int, Cond.fieldLink RX1 9 "TreemapLayout$Layout" "sizes" "[I", Cond.fieldLink RX1 15 "TreemapLayout$Layout" "depths" "[I", Cond.arrayClass .boolean, Cond.fieldLink RX1 18 "TreemapLayout$Layout" "hidden" "[Z", Cond.classLink RX1 22 RX3, Cond.instantiable RX3 4, Cond.initialized RX3, Cond.fieldLink RX1 25 "TreemapLayout$Layout" "rects" "LTreemapLayout$Rects;", Cond.fieldLink RX1 29 "TreemapLayout$Layout" "order" "[I", Cond.fieldLink RX1 32 "TreemapLayout$Layout" "firstChildren" "[I", Cond.fieldLink RX1 35 "TreemapLayout$Layout" "childCounts" "[I", Cond.classLink RX1 38 RX2, Cond.instantiable RX2 8, Cond.initialized RX2, Cond.fieldLink RX1 41 "TreemapLayout$Layout" "placer" "LTreemapLayout$Placer;", Cond.instanceMethod yX3_init, Cond.code yX3_init cX3_init 1 none, Cond.methodLink RX3 3 objectInit, Cond.fieldLink RX3 9 "TreemapLayout$Rects" "lefts" "[I", Cond.fieldLink RX3 15 "TreemapLayout$Rects" "tops" "[I"]
def wsX1_init_r2 : List Cond := [Cond.fieldLink RX3 18 "TreemapLayout$Rects" "widths" "[I", Cond.fieldLink RX3 21 "TreemapLayout$Rects" "heights" "[I", Cond.instanceMethod yX2_init, Cond.code yX2_init cX2_init 1 none, Cond.methodLink RX2 3 objectInit, Cond.fieldLink RX2 9 "TreemapLayout$Placer" "kids" "[I", Cond.fieldLink RX2 15 "TreemapLayout$Placer" "kidSizes" "[I", Cond.classLink RX2 18 RX0, Cond.instantiable RX0 4, Cond.initialized RX0, Cond.fieldLink RX2 21 "TreemapLayout$Placer" "free" "LTreemapLayout$Box;", Cond.fieldLink RX2 25 "TreemapLayout$Placer" "band" "LTreemapLayout$Box;", Cond.classLink RX2 28 RX4, Cond.instantiable RX4 4, Cond.initialized RX4, Cond.fieldLink RX2 31 "TreemapLayout$Placer" "kidShares" "LTreemapLayout$Shares;", Cond.fieldLink RX2 35 "TreemapLayout$Placer" "stripShares" "LTreemapLayout$Shares;", Cond.fieldLink RX2 38 "TreemapLayout$Placer" "stripEnds" "[I", Cond.instanceMethod yX0_init, Cond.code yX0_init cX0_init 1 none, Cond.methodLink RX0 1 objectInit, Cond.instanceMethod yX4_init, Cond.code yX4_init cX4_init 1 none, Cond.methodLink RX4 3 objectInit]
def wsX1_init_r3 : List Cond := [Cond.fieldLink RX4 9 "TreemapLayout$Shares" "partSizes" "[I", Cond.fieldLink RX4 15 "TreemapLayout$Shares" "remainders" "[I", Cond.fieldLink RX4 18 "TreemapLayout$Shares" "pixels" "[I"]
def wsX1_init : List Cond := .code yX1_init cX1_init 1 none :: ((wsX1_init_r1 ++ (wsX1_init_r2 ++ wsX1_init_r3)) ++ wsX10 ++ wsX30 ++ wsX20 ++ wsX00 ++ wsX40)
def wsX1_isLeaf : List Cond := .code yX1_isLeaf cX1_isLeaf 2 (some .boolean) :: ([.fieldLink RX1 35 "TreemapLayout$Layout" "childCounts" "[I"] ++ wsX10)
def wsX3_area : List Cond := .code yX3_area cX3_area 2 (some .int) :: ([.fieldLink RX3 18 "TreemapLayout$Rects" "widths" "[I", .fieldLink RX3 21 "TreemapLayout$Rects" "heights" "[I"] ++ wsX30)
def wsX1_isLeafWithArea : List Cond := .code yX1_isLeafWithArea cX1_isLeafWithArea 2 (some .boolean) :: ([.fieldLink RX1 25 "TreemapLayout$Layout" "rects" "LTreemapLayout$Rects;", .methodLink RX1 45 yX1_isLeaf, .instanceMethod yX1_isLeaf, .selects RX1 yX1_isLeaf yX1_isLeaf, .initialized RX1, .code yX1_isLeaf cX1_isLeaf 2 (some .boolean), .fieldLink RX1 35 "TreemapLayout$Layout" "childCounts" "[I", .methodLink RX1 49 yX3_area, .instanceMethod yX3_area, .selects RX3 yX3_area yX3_area, .initialized RX3, .code yX3_area cX3_area 2 (some .int), .fieldLink RX3 18 "TreemapLayout$Rects" "widths" "[I", .fieldLink RX3 21 "TreemapLayout$Rects" "heights" "[I"] ++ wsX10 ++ wsX30)
def wsX1_orderNodes : List Cond := .code yX1_orderNodes cX1_orderNodes 6 none :: ([.fieldLink RX1 29 "TreemapLayout$Layout" "order" "[I", .fieldLink RX1 15 "TreemapLayout$Layout" "depths" "[I", .fieldLink RX1 73 "TreemapLayout$State" "count" "I", .fieldLink RX1 32 "TreemapLayout$Layout" "firstChildren" "[I", .fieldLink RX1 80 "TreemapLayout$State" "parents" "[I", .fieldLink RX1 35 "TreemapLayout$Layout" "childCounts" "[I"] ++ wsX10 ++ wsX50)
def wsX1_sumSizes : List Cond := .code yX1_sumSizes cX1_sumSizes 7 none :: ([.fieldLink RX1 73 "TreemapLayout$State" "count" "I", .fieldLink RX1 29 "TreemapLayout$Layout" "order" "[I", .fieldLink RX1 32 "TreemapLayout$Layout" "firstChildren" "[I", .fieldLink RX1 35 "TreemapLayout$Layout" "childCounts" "[I", .fieldLink RX1 9 "TreemapLayout$Layout" "sizes" "[I", .fieldLink RX1 83 "TreemapLayout$State" "ownSizes" "[I", .methodLink RX1 45 yX1_isLeaf, .instanceMethod yX1_isLeaf, .selects RX1 yX1_isLeaf yX1_isLeaf, .initialized RX1, .code yX1_isLeaf cX1_isLeaf 2 (some .boolean)] ++ wsX50 ++ wsX10)
def wsX3_put : List Cond := .code yX3_put cX3_put 6 none :: ([.fieldLink RX3 9 "TreemapLayout$Rects" "lefts" "[I", .fieldLink RX3 15 "TreemapLayout$Rects" "tops" "[I", .fieldLink RX3 18 "TreemapLayout$Rects" "widths" "[I", .fieldLink RX3 21 "TreemapLayout$Rects" "heights" "[I"] ++ wsX30)
def wsX2_open : List Cond := .code yX2_open cX2_open 5 none :: ([.fieldLink RX2 41 "TreemapLayout$Placer" "kidCount" "I", .fieldLink RX2 21 "TreemapLayout$Placer" "free" "LTreemapLayout$Box;", .methodLink RX2 45 yX0_set, .instanceMethod yX0_set, .selects RX0 yX0_set yX0_set, .initialized RX0, .code yX0_set cX0_set 5 none, .fieldLink RX0 7 "TreemapLayout$Box" "left" "I", .fieldLink RX0 13 "TreemapLayout$Box" "top" "I", .fieldLink RX0 16 "TreemapLayout$Box" "wide" "I", .fieldLink RX0 19 "TreemapLayout$Box" "high" "I"] ++ wsX20 ++ wsX00)
def wsX2_hasNoRoom : List Cond := .code yX2_hasNoRoom cX2_hasNoRoom 1 (some .boolean) :: ([.fieldLink RX2 21 "TreemapLayout$Placer" "free" "LTreemapLayout$Box;", .methodLink RX2 49 yX0_isEmpty, .instanceMethod yX0_isEmpty, .selects RX0 yX0_isEmpty yX0_isEmpty, .initialized RX0, .code yX0_isEmpty cX0_isEmpty 1 (some .boolean), .fieldLink RX0 16 "TreemapLayout$Box" "wide" "I", .fieldLink RX0 19 "TreemapLayout$Box" "high" "I"] ++ wsX20 ++ wsX00)
def wsX2_add : List Cond := .code yX2_add cX2_add 3 none :: ([.fieldLink RX2 41 "TreemapLayout$Placer" "kidCount" "I", .fieldLink RX2 9 "TreemapLayout$Placer" "kids" "[I", .fieldLink RX2 15 "TreemapLayout$Placer" "kidSizes" "[I"] ++ wsX20)
def wsX4_clear : List Cond := .code yX4_clear cX4_clear 1 none :: ([.fieldLink RX4 21 "TreemapLayout$Shares" "count" "I"] ++ wsX40)
def wsX4_add : List Cond := .code yX4_add cX4_add 2 none :: ([.fieldLink RX4 21 "TreemapLayout$Shares" "count" "I", .fieldLink RX4 9 "TreemapLayout$Shares" "partSizes" "[I"] ++ wsX40)
def wsX4_largestRemainder : List Cond := .code yX4_largestRemainder cX4_largestRemainder 3 (some .int) :: ([.fieldLink RX4 21 "TreemapLayout$Shares" "count" "I", .fieldLink RX4 15 "TreemapLayout$Shares" "remainders" "[I"] ++ wsX40)
def wsX4_apportion : List Cond := .code yX4_apportion cX4_apportion 6 none :: ([.fieldLink RX4 21 "TreemapLayout$Shares" "count" "I", .fieldLink RX4 9 "TreemapLayout$Shares" "partSizes" "[I", .fieldLink RX4 18 "TreemapLayout$Shares" "pixels" "[I", .fieldLink RX4 15 "TreemapLayout$Shares" "remainders" "[I", .methodLink RX4 25 yX4_largestRemainder, .instanceMethod yX4_largestRemainder, .selects RX4 yX4_largestRemainder yX4_largestRemainder, .initialized RX4, .code yX4_largestRemainder cX4_largestRemainder 3 (some .int)] ++ wsX40)
def wsX2_fillBand_r1 : List Cond := [Cond.fieldLink RX2 31 "TreemapLayout$Placer" "kidShares" "LTreemapLayout$Shares;", Cond.fieldLink RX2 15 "TreemapLayout$Placer" "kidSizes" "[I", Cond.fieldLink RX2 25 "TreemapLayout$Placer" "band" "LTreemapLayout$Box;", Cond.fieldLink RX2 59 "TreemapLayout$Box" "wide" "I", Cond.fieldLink RX2 62 "TreemapLayout$Box" "high" "I", Cond.fieldLink RX2 79 "TreemapLayout$Shares" "pixels" "[I", Cond.fieldLink RX2 9 "TreemapLayout$Placer" "kids" "[I", Cond.fieldLink RX2 53 "TreemapLayout$Box" "left" "I", Cond.fieldLink RX2 56 "TreemapLayout$Box" "top" "I", Cond.methodLink RX2 86 yX4_clear, Cond.instanceMethod yX4_clear, Cond.selects RX4 yX4_clear yX4_clear, Cond.initialized RX4, Cond.code yX4_clear cX4_clear 1 none, Cond.fieldLink RX4 21 "TreemapLayout$Shares" "count" "I", Cond.methodLink RX2 97 yX4_add, Cond.instanceMethod yX4_add, Cond.selects RX4 yX4_add yX4_add, Cond.code yX4_add cX4_add 2 none, Cond.fieldLink RX4 9 "TreemapLayout$Shares" "partSizes" "[I", Cond.methodLink RX2 72 yX4_apportion, Cond.instanceMethod yX4_apportion, Cond.selects RX4 yX4_apportion yX4_apportion, Cond.code yX4_apportion cX4_apportion 6 none]
def wsX2_fillBand_r2 : List Cond := [Cond.fieldLink RX4 18 "TreemapLayout$Shares" "pixels" "[I", Cond.fieldLink RX4 15 "TreemapLayout$Shares" "remainders" "[I", Cond.methodLink RX4 25 yX4_largestRemainder, Cond.instanceMethod yX4_largestRemainder, Cond.selects RX4 yX4_largestRemainder yX4_largestRemainder, Cond.code yX4_largestRemainder cX4_largestRemainder 3 (some .int), Cond.methodLink RX2 136 yX3_put, Cond.instanceMethod yX3_put, Cond.selects RX3 yX3_put yX3_put, Cond.initialized RX3, Cond.code yX3_put cX3_put 6 none, Cond.fieldLink RX3 9 "TreemapLayout$Rects" "lefts" "[I", Cond.fieldLink RX3 15 "TreemapLayout$Rects" "tops" "[I", Cond.fieldLink RX3 18 "TreemapLayout$Rects" "widths" "[I", Cond.fieldLink RX3 21 "TreemapLayout$Rects" "heights" "[I"]
def wsX2_fillBand : List Cond := .code yX2_fillBand cX2_fillBand 8 none :: ((wsX2_fillBand_r1 ++ wsX2_fillBand_r2) ++ wsX20 ++ wsX00 ++ wsX40 ++ wsX30)
def wsX2_slice_r1 : List Cond := [Cond.fieldLink RX2 25 "TreemapLayout$Placer" "band" "LTreemapLayout$Box;", Cond.fieldLink RX2 21 "TreemapLayout$Placer" "free" "LTreemapLayout$Box;", Cond.fieldLink RX2 53 "TreemapLayout$Box" "left" "I", Cond.fieldLink RX2 56 "TreemapLayout$Box" "top" "I", Cond.fieldLink RX2 59 "TreemapLayout$Box" "wide" "I", Cond.fieldLink RX2 62 "TreemapLayout$Box" "high" "I", Cond.fieldLink RX2 41 "TreemapLayout$Placer" "kidCount" "I", Cond.methodLink RX2 45 yX0_set, Cond.instanceMethod yX0_set, Cond.selects RX0 yX0_set yX0_set, Cond.initialized RX0, Cond.code yX0_set cX0_set 5 none, Cond.fieldLink RX0 7 "TreemapLayout$Box" "left" "I", Cond.fieldLink RX0 13 "TreemapLayout$Box" "top" "I", Cond.fieldLink RX0 16 "TreemapLayout$Box" "wide" "I", Cond.fieldLink RX0 19 "TreemapLayout$Box" "high" "I", Cond.methodLink RX2 65 yX2_fillBand, Cond.instanceMethod yX2_fillBand, Cond.selects RX2 yX2_fillBand yX2_fillBand, Cond.initialized RX2, Cond.code yX2_fillBand cX2_fillBand 8 none, Cond.fieldLink RX2 31 "TreemapLayout$Placer" "kidShares" "LTreemapLayout$Shares;", Cond.fieldLink RX2 15 "TreemapLayout$Placer" "kidSizes" "[I", Cond.fieldLink RX2 79 "TreemapLayout$Shares" "pixels" "[I"]
def wsX2_slice_r2 : List Cond := [Cond.fieldLink RX2 9 "TreemapLayout$Placer" "kids" "[I", Cond.methodLink RX2 86 yX4_clear, Cond.instanceMethod yX4_clear, Cond.selects RX4 yX4_clear yX4_clear, Cond.initialized RX4, Cond.code yX4_clear cX4_clear 1 none, Cond.fieldLink RX4 21 "TreemapLayout$Shares" "count" "I", Cond.methodLink RX2 97 yX4_add, Cond.instanceMethod yX4_add, Cond.selects RX4 yX4_add yX4_add, Cond.code yX4_add cX4_add 2 none, Cond.fieldLink RX4 9 "TreemapLayout$Shares" "partSizes" "[I", Cond.methodLink RX2 72 yX4_apportion, Cond.instanceMethod yX4_apportion, Cond.selects RX4 yX4_apportion yX4_apportion, Cond.code yX4_apportion cX4_apportion 6 none, Cond.fieldLink RX4 18 "TreemapLayout$Shares" "pixels" "[I", Cond.fieldLink RX4 15 "TreemapLayout$Shares" "remainders" "[I", Cond.methodLink RX4 25 yX4_largestRemainder, Cond.instanceMethod yX4_largestRemainder, Cond.selects RX4 yX4_largestRemainder yX4_largestRemainder, Cond.code yX4_largestRemainder cX4_largestRemainder 3 (some .int), Cond.methodLink RX2 136 yX3_put, Cond.instanceMethod yX3_put]
def wsX2_slice_r3 : List Cond := [Cond.selects RX3 yX3_put yX3_put, Cond.initialized RX3, Cond.code yX3_put cX3_put 6 none, Cond.fieldLink RX3 9 "TreemapLayout$Rects" "lefts" "[I", Cond.fieldLink RX3 15 "TreemapLayout$Rects" "tops" "[I", Cond.fieldLink RX3 18 "TreemapLayout$Rects" "widths" "[I", Cond.fieldLink RX3 21 "TreemapLayout$Rects" "heights" "[I"]
def wsX2_slice : List Cond := .code yX2_slice cX2_slice 3 none :: ((wsX2_slice_r1 ++ (wsX2_slice_r2 ++ wsX2_slice_r3)) ++ wsX20 ++ wsX00 ++ wsX40 ++ wsX30)
def wsX2_sumOfSizes : List Cond := .code yX2_sumOfSizes cX2_sumOfSizes 5 (some .int) :: ([.fieldLink RX2 15 "TreemapLayout$Placer" "kidSizes" "[I"] ++ wsX20)
def wsX2_pixelsPerSize : List Cond := .code yX2_pixelsPerSize cX2_pixelsPerSize 3 (some .float) :: ([.fieldLink RX2 41 "TreemapLayout$Placer" "kidCount" "I", .fieldLink RX2 21 "TreemapLayout$Placer" "free" "LTreemapLayout$Box;", .fieldLink RX2 59 "TreemapLayout$Box" "wide" "I", .fieldLink RX2 62 "TreemapLayout$Box" "high" "I", .methodLink RX2 93 yX2_sumOfSizes, .instanceMethod yX2_sumOfSizes, .selects RX2 yX2_sumOfSizes yX2_sumOfSizes, .initialized RX2, .code yX2_sumOfSizes cX2_sumOfSizes 5 (some .int), .fieldLink RX2 15 "TreemapLayout$Placer" "kidSizes" "[I"] ++ wsX20 ++ wsX00)
def wsX2_thicknessOf : List Cond := .code yX2_thicknessOf cX2_thicknessOf 3 (some .float) :: ([])
def wsX2_ratio : List Cond := .code yX2_ratio cX2_ratio 6 (some .float) :: ([])
def wsX2_averageRatio : List Cond := .code yX2_averageRatio cX2_averageRatio 7 (some .float) :: ([.fieldLink RX2 21 "TreemapLayout$Placer" "free" "LTreemapLayout$Box;", .fieldLink RX2 59 "TreemapLayout$Box" "wide" "I", .fieldLink RX2 15 "TreemapLayout$Placer" "kidSizes" "[I", .methodLink RX2 93 yX2_sumOfSizes, .instanceMethod yX2_sumOfSizes, .selects RX2 yX2_sumOfSizes yX2_sumOfSizes, .initialized RX2, .code yX2_sumOfSizes cX2_sumOfSizes 5 (some .int), .methodLink RX2 100 yX2_thicknessOf, .static yX2_thicknessOf, .code yX2_thicknessOf cX2_thicknessOf 3 (some .float), .methodLink RX2 104 yX2_ratio, .static yX2_ratio, .code yX2_ratio cX2_ratio 6 (some .float)] ++ wsX20 ++ wsX00)
def wsX2_splitIntoStrips_r1 : List Cond := [Cond.fieldLink RX2 35 "TreemapLayout$Placer" "stripShares" "LTreemapLayout$Shares;", Cond.fieldLink RX2 41 "TreemapLayout$Placer" "kidCount" "I", Cond.fieldLink RX2 76 "TreemapLayout$Shares" "count" "I", Cond.fieldLink RX2 38 "TreemapLayout$Placer" "stripEnds" "[I", Cond.methodLink RX2 82 yX2_pixelsPerSize, Cond.instanceMethod yX2_pixelsPerSize, Cond.selects RX2 yX2_pixelsPerSize yX2_pixelsPerSize, Cond.initialized RX2, Cond.code yX2_pixelsPerSize cX2_pixelsPerSize 3 (some .float), Cond.fieldLink RX2 21 "TreemapLayout$Placer" "free" "LTreemapLayout$Box;", Cond.fieldLink RX2 59 "TreemapLayout$Box" "wide" "I", Cond.fieldLink RX2 62 "TreemapLayout$Box" "high" "I", Cond.methodLink RX2 93 yX2_sumOfSizes, Cond.instanceMethod yX2_sumOfSizes, Cond.selects RX2 yX2_sumOfSizes yX2_sumOfSizes, Cond.code yX2_sumOfSizes cX2_sumOfSizes 5 (some .int), Cond.fieldLink RX2 15 "TreemapLayout$Placer" "kidSizes" "[I", Cond.methodLink RX2 86 yX4_clear, Cond.instanceMethod yX4_clear, Cond.selects RX4 yX4_clear yX4_clear, Cond.initialized RX4, Cond.code yX4_clear cX4_clear 1 none, Cond.fieldLink RX4 21 "TreemapLayout$Shares" "count" "I", Cond.methodLink RX2 89 yX2_averageRatio]
def wsX2_splitIntoStrips_r2 : List Cond := [Cond.instanceMethod yX2_averageRatio, Cond.selects RX2 yX2_averageRatio yX2_averageRatio, Cond.code yX2_averageRatio cX2_averageRatio 7 (some .float), Cond.methodLink RX2 100 yX2_thicknessOf, Cond.static yX2_thicknessOf, Cond.code yX2_thicknessOf cX2_thicknessOf 3 (some .float), Cond.methodLink RX2 104 yX2_ratio, Cond.static yX2_ratio, Cond.code yX2_ratio cX2_ratio 6 (some .float), Cond.methodLink RX2 97 yX4_add, Cond.instanceMethod yX4_add, Cond.selects RX4 yX4_add yX4_add, Cond.code yX4_add cX4_add 2 none, Cond.fieldLink RX4 9 "TreemapLayout$Shares" "partSizes" "[I"]
def wsX2_splitIntoStrips : List Cond := .code yX2_splitIntoStrips cX2_splitIntoStrips 5 none :: ((wsX2_splitIntoStrips_r1 ++ wsX2_splitIntoStrips_r2) ++ wsX20 ++ wsX40 ++ wsX00)
def wsX2_strip_r1 : List Cond := [Cond.fieldLink RX2 35 "TreemapLayout$Placer" "stripShares" "LTreemapLayout$Shares;", Cond.fieldLink RX2 21 "TreemapLayout$Placer" "free" "LTreemapLayout$Box;", Cond.fieldLink RX2 62 "TreemapLayout$Box" "high" "I", Cond.fieldLink RX2 56 "TreemapLayout$Box" "top" "I", Cond.fieldLink RX2 76 "TreemapLayout$Shares" "count" "I", Cond.fieldLink RX2 25 "TreemapLayout$Placer" "band" "LTreemapLayout$Box;", Cond.fieldLink RX2 53 "TreemapLayout$Box" "left" "I", Cond.fieldLink RX2 59 "TreemapLayout$Box" "wide" "I", Cond.fieldLink RX2 79 "TreemapLayout$Shares" "pixels" "[I", Cond.fieldLink RX2 38 "TreemapLayout$Placer" "stripEnds" "[I", Cond.methodLink RX2 69 yX2_splitIntoStrips, Cond.instanceMethod yX2_splitIntoStrips, Cond.selects RX2 yX2_splitIntoStrips yX2_splitIntoStrips, Cond.initialized RX2, Cond.code yX2_splitIntoStrips cX2_splitIntoStrips 5 none, Cond.fieldLink RX2 41 "TreemapLayout$Placer" "kidCount" "I", Cond.methodLink RX2 82 yX2_pixelsPerSize, Cond.instanceMethod yX2_pixelsPerSize, Cond.selects RX2 yX2_pixelsPerSize yX2_pixelsPerSize, Cond.code yX2_pixelsPerSize cX2_pixelsPerSize 3 (some .float), Cond.methodLink RX2 93 yX2_sumOfSizes, Cond.instanceMethod yX2_sumOfSizes, Cond.selects RX2 yX2_sumOfSizes yX2_sumOfSizes, Cond.code yX2_sumOfSizes cX2_sumOfSizes 5 (some .int)]
def wsX2_strip_r2 : List Cond := [Cond.fieldLink RX2 15 "TreemapLayout$Placer" "kidSizes" "[I", Cond.methodLink RX2 86 yX4_clear, Cond.instanceMethod yX4_clear, Cond.selects RX4 yX4_clear yX4_clear, Cond.initialized RX4, Cond.code yX4_clear cX4_clear 1 none, Cond.fieldLink RX4 21 "TreemapLayout$Shares" "count" "I", Cond.methodLink RX2 89 yX2_averageRatio, Cond.instanceMethod yX2_averageRatio, Cond.selects RX2 yX2_averageRatio yX2_averageRatio, Cond.code yX2_averageRatio cX2_averageRatio 7 (some .float), Cond.methodLink RX2 100 yX2_thicknessOf, Cond.static yX2_thicknessOf, Cond.code yX2_thicknessOf cX2_thicknessOf 3 (some .float), Cond.methodLink RX2 104 yX2_ratio, Cond.static yX2_ratio, Cond.code yX2_ratio cX2_ratio 6 (some .float), Cond.methodLink RX2 97 yX4_add, Cond.instanceMethod yX4_add, Cond.selects RX4 yX4_add yX4_add, Cond.code yX4_add cX4_add 2 none, Cond.fieldLink RX4 9 "TreemapLayout$Shares" "partSizes" "[I", Cond.methodLink RX2 72 yX4_apportion, Cond.instanceMethod yX4_apportion]
def wsX2_strip_r3 : List Cond := [Cond.selects RX4 yX4_apportion yX4_apportion, Cond.code yX4_apportion cX4_apportion 6 none, Cond.fieldLink RX4 18 "TreemapLayout$Shares" "pixels" "[I", Cond.fieldLink RX4 15 "TreemapLayout$Shares" "remainders" "[I", Cond.methodLink RX4 25 yX4_largestRemainder, Cond.instanceMethod yX4_largestRemainder, Cond.selects RX4 yX4_largestRemainder yX4_largestRemainder, Cond.code yX4_largestRemainder cX4_largestRemainder 3 (some .int), Cond.methodLink RX2 45 yX0_set, Cond.instanceMethod yX0_set, Cond.selects RX0 yX0_set yX0_set, Cond.initialized RX0, Cond.code yX0_set cX0_set 5 none, Cond.fieldLink RX0 7 "TreemapLayout$Box" "left" "I", Cond.fieldLink RX0 13 "TreemapLayout$Box" "top" "I", Cond.fieldLink RX0 16 "TreemapLayout$Box" "wide" "I", Cond.fieldLink RX0 19 "TreemapLayout$Box" "high" "I", Cond.methodLink RX2 65 yX2_fillBand, Cond.instanceMethod yX2_fillBand, Cond.selects RX2 yX2_fillBand yX2_fillBand, Cond.code yX2_fillBand cX2_fillBand 8 none, Cond.fieldLink RX2 31 "TreemapLayout$Placer" "kidShares" "LTreemapLayout$Shares;", Cond.fieldLink RX2 9 "TreemapLayout$Placer" "kids" "[I", Cond.methodLink RX2 136 yX3_put]
def wsX2_strip_r4 : List Cond := [Cond.instanceMethod yX3_put, Cond.selects RX3 yX3_put yX3_put, Cond.initialized RX3, Cond.code yX3_put cX3_put 6 none, Cond.fieldLink RX3 9 "TreemapLayout$Rects" "lefts" "[I", Cond.fieldLink RX3 15 "TreemapLayout$Rects" "tops" "[I", Cond.fieldLink RX3 18 "TreemapLayout$Rects" "widths" "[I", Cond.fieldLink RX3 21 "TreemapLayout$Rects" "heights" "[I"]
def wsX2_strip : List Cond := .code yX2_strip cX2_strip 5 none :: ((wsX2_strip_r1 ++ (wsX2_strip_r2 ++ (wsX2_strip_r3 ++ wsX2_strip_r4))) ++ wsX20 ++ wsX00 ++ wsX40 ++ wsX30)
def wsX2_sortByFallingSize : List Cond := .code yX2_sortByFallingSize cX2_sortByFallingSize 5 none :: ([.fieldLink RX2 41 "TreemapLayout$Placer" "kidCount" "I", .fieldLink RX2 9 "TreemapLayout$Placer" "kids" "[I", .fieldLink RX2 15 "TreemapLayout$Placer" "kidSizes" "[I"] ++ wsX20)
def wsX2_collapse : List Cond := .code yX2_collapse cX2_collapse 4 none :: ([.fieldLink RX2 41 "TreemapLayout$Placer" "kidCount" "I", .fieldLink RX2 9 "TreemapLayout$Placer" "kids" "[I", .fieldLink RX2 21 "TreemapLayout$Placer" "free" "LTreemapLayout$Box;", .fieldLink RX2 53 "TreemapLayout$Box" "left" "I", .fieldLink RX2 56 "TreemapLayout$Box" "top" "I", .methodLink RX2 136 yX3_put, .instanceMethod yX3_put, .selects RX3 yX3_put yX3_put, .initialized RX3, .code yX3_put cX3_put 6 none, .fieldLink RX3 9 "TreemapLayout$Rects" "lefts" "[I", .fieldLink RX3 15 "TreemapLayout$Rects" "tops" "[I", .fieldLink RX3 18 "TreemapLayout$Rects" "widths" "[I", .fieldLink RX3 21 "TreemapLayout$Rects" "heights" "[I"] ++ wsX20 ++ wsX00 ++ wsX30)
def wsX2_worstRatio : List Cond := .code yX2_worstRatio cX2_worstRatio 9 (some .float) :: ([.fieldLink RX2 15 "TreemapLayout$Placer" "kidSizes" "[I", .methodLink RX2 93 yX2_sumOfSizes, .instanceMethod yX2_sumOfSizes, .selects RX2 yX2_sumOfSizes yX2_sumOfSizes, .initialized RX2, .code yX2_sumOfSizes cX2_sumOfSizes 5 (some .int), .methodLink RX2 100 yX2_thicknessOf, .static yX2_thicknessOf, .code yX2_thicknessOf cX2_thicknessOf 3 (some .float), .methodLink RX2 104 yX2_ratio, .static yX2_ratio, .code yX2_ratio cX2_ratio 6 (some .float)] ++ wsX20)
def wsX2_endOfRow_r1 : List Cond := [Cond.fieldLink RX2 21 "TreemapLayout$Placer" "free" "LTreemapLayout$Box;", Cond.fieldLink RX2 59 "TreemapLayout$Box" "wide" "I", Cond.fieldLink RX2 62 "TreemapLayout$Box" "high" "I", Cond.methodLink RX2 123 Lib.Math.min.name, Cond.static Lib.Math.min.name, Cond.initialized "java/lang/Math", Cond.code Lib.Math.min.name Lib.Math.min.code 2 (some .int), Cond.fieldLink RX2 41 "TreemapLayout$Placer" "kidCount" "I", Cond.methodLink RX2 82 yX2_pixelsPerSize, Cond.instanceMethod yX2_pixelsPerSize, Cond.selects RX2 yX2_pixelsPerSize yX2_pixelsPerSize, Cond.initialized RX2, Cond.code yX2_pixelsPerSize cX2_pixelsPerSize 3 (some .float), Cond.methodLink RX2 93 yX2_sumOfSizes, Cond.instanceMethod yX2_sumOfSizes, Cond.selects RX2 yX2_sumOfSizes yX2_sumOfSizes, Cond.code yX2_sumOfSizes cX2_sumOfSizes 5 (some .int), Cond.fieldLink RX2 15 "TreemapLayout$Placer" "kidSizes" "[I", Cond.methodLink RX2 128 yX2_worstRatio, Cond.instanceMethod yX2_worstRatio, Cond.selects RX2 yX2_worstRatio yX2_worstRatio, Cond.code yX2_worstRatio cX2_worstRatio 9 (some .float), Cond.methodLink RX2 100 yX2_thicknessOf, Cond.static yX2_thicknessOf]
def wsX2_endOfRow_r2 : List Cond := [Cond.code yX2_thicknessOf cX2_thicknessOf 3 (some .float), Cond.methodLink RX2 104 yX2_ratio, Cond.static yX2_ratio, Cond.code yX2_ratio cX2_ratio 6 (some .float)]
def wsX2_endOfRow : List Cond := .code yX2_endOfRow cX2_endOfRow 7 (some .int) :: ((wsX2_endOfRow_r1 ++ wsX2_endOfRow_r2) ++ wsX20 ++ wsX00)
def wsX2_rowThickness : List Cond := .code yX2_rowThickness cX2_rowThickness 5 (some .int) :: ([.fieldLink RX2 41 "TreemapLayout$Placer" "kidCount" "I", .methodLink RX2 93 yX2_sumOfSizes, .instanceMethod yX2_sumOfSizes, .selects RX2 yX2_sumOfSizes yX2_sumOfSizes, .initialized RX2, .code yX2_sumOfSizes cX2_sumOfSizes 5 (some .int), .fieldLink RX2 15 "TreemapLayout$Placer" "kidSizes" "[I"] ++ wsX20)
def wsX2_cutBand_r1 : List Cond := [Cond.fieldLink RX2 21 "TreemapLayout$Placer" "free" "LTreemapLayout$Box;", Cond.fieldLink RX2 59 "TreemapLayout$Box" "wide" "I", Cond.fieldLink RX2 25 "TreemapLayout$Placer" "band" "LTreemapLayout$Box;", Cond.fieldLink RX2 53 "TreemapLayout$Box" "left" "I", Cond.fieldLink RX2 56 "TreemapLayout$Box" "top" "I", Cond.fieldLink RX2 62 "TreemapLayout$Box" "high" "I", Cond.methodLink RX2 132 yX2_rowThickness, Cond.instanceMethod yX2_rowThickness, Cond.selects RX2 yX2_rowThickness yX2_rowThickness, Cond.initialized RX2, Cond.code yX2_rowThickness cX2_rowThickness 5 (some .int), Cond.fieldLink RX2 41 "TreemapLayout$Placer" "kidCount" "I", Cond.methodLink RX2 93 yX2_sumOfSizes, Cond.instanceMethod yX2_sumOfSizes, Cond.selects RX2 yX2_sumOfSizes yX2_sumOfSizes, Cond.code yX2_sumOfSizes cX2_sumOfSizes 5 (some .int), Cond.fieldLink RX2 15 "TreemapLayout$Placer" "kidSizes" "[I", Cond.methodLink RX2 45 yX0_set, Cond.instanceMethod yX0_set, Cond.selects RX0 yX0_set yX0_set, Cond.initialized RX0, Cond.code yX0_set cX0_set 5 none, Cond.fieldLink RX0 7 "TreemapLayout$Box" "left" "I", Cond.fieldLink RX0 13 "TreemapLayout$Box" "top" "I"]
def wsX2_cutBand_r2 : List Cond := [Cond.fieldLink RX0 16 "TreemapLayout$Box" "wide" "I", Cond.fieldLink RX0 19 "TreemapLayout$Box" "high" "I"]
def wsX2_cutBand : List Cond := .code yX2_cutBand cX2_cutBand 5 none :: ((wsX2_cutBand_r1 ++ wsX2_cutBand_r2) ++ wsX20 ++ wsX00)
def wsX2_squarify_r1 : List Cond := [Cond.fieldLink RX2 41 "TreemapLayout$Placer" "kidCount" "I", Cond.fieldLink RX2 21 "TreemapLayout$Placer" "free" "LTreemapLayout$Box;", Cond.fieldLink RX2 62 "TreemapLayout$Box" "high" "I", Cond.fieldLink RX2 59 "TreemapLayout$Box" "wide" "I", Cond.methodLink RX2 108 yX2_sortByFallingSize, Cond.instanceMethod yX2_sortByFallingSize, Cond.selects RX2 yX2_sortByFallingSize yX2_sortByFallingSize, Cond.initialized RX2, Cond.code yX2_sortByFallingSize cX2_sortByFallingSize 5 none, Cond.fieldLink RX2 9 "TreemapLayout$Placer" "kids" "[I", Cond.fieldLink RX2 15 "TreemapLayout$Placer" "kidSizes" "[I", Cond.methodLink RX2 49 yX0_isEmpty, Cond.instanceMethod yX0_isEmpty, Cond.selects RX0 yX0_isEmpty yX0_isEmpty, Cond.initialized RX0, Cond.code yX0_isEmpty cX0_isEmpty 1 (some .boolean), Cond.fieldLink RX0 16 "TreemapLayout$Box" "wide" "I", Cond.fieldLink RX0 19 "TreemapLayout$Box" "high" "I", Cond.methodLink RX2 111 yX2_collapse, Cond.instanceMethod yX2_collapse, Cond.selects RX2 yX2_collapse yX2_collapse, Cond.code yX2_collapse cX2_collapse 4 none, Cond.fieldLink RX2 53 "TreemapLayout$Box" "left" "I", Cond.fieldLink RX2 56 "TreemapLayout$Box" "top" "I"]
def wsX2_squarify_r2 : List Cond := [Cond.methodLink RX2 136 yX3_put, Cond.instanceMethod yX3_put, Cond.selects RX3 yX3_put yX3_put, Cond.initialized RX3, Cond.code yX3_put cX3_put 6 none, Cond.fieldLink RX3 9 "TreemapLayout$Rects" "lefts" "[I", Cond.fieldLink RX3 15 "TreemapLayout$Rects" "tops" "[I", Cond.fieldLink RX3 18 "TreemapLayout$Rects" "widths" "[I", Cond.fieldLink RX3 21 "TreemapLayout$Rects" "heights" "[I", Cond.methodLink RX2 115 yX2_endOfRow, Cond.instanceMethod yX2_endOfRow, Cond.selects RX2 yX2_endOfRow yX2_endOfRow, Cond.code yX2_endOfRow cX2_endOfRow 7 (some .int), Cond.methodLink RX2 123 Lib.Math.min.name, Cond.static Lib.Math.min.name, Cond.initialized "java/lang/Math", Cond.code Lib.Math.min.name Lib.Math.min.code 2 (some .int), Cond.methodLink RX2 82 yX2_pixelsPerSize, Cond.instanceMethod yX2_pixelsPerSize, Cond.selects RX2 yX2_pixelsPerSize yX2_pixelsPerSize, Cond.code yX2_pixelsPerSize cX2_pixelsPerSize 3 (some .float), Cond.methodLink RX2 93 yX2_sumOfSizes, Cond.instanceMethod yX2_sumOfSizes, Cond.selects RX2 yX2_sumOfSizes yX2_sumOfSizes]
def wsX2_squarify_r3 : List Cond := [Cond.code yX2_sumOfSizes cX2_sumOfSizes 5 (some .int), Cond.methodLink RX2 128 yX2_worstRatio, Cond.instanceMethod yX2_worstRatio, Cond.selects RX2 yX2_worstRatio yX2_worstRatio, Cond.code yX2_worstRatio cX2_worstRatio 9 (some .float), Cond.methodLink RX2 100 yX2_thicknessOf, Cond.static yX2_thicknessOf, Cond.code yX2_thicknessOf cX2_thicknessOf 3 (some .float), Cond.methodLink RX2 104 yX2_ratio, Cond.static yX2_ratio, Cond.code yX2_ratio cX2_ratio 6 (some .float), Cond.methodLink RX2 119 yX2_cutBand, Cond.instanceMethod yX2_cutBand, Cond.selects RX2 yX2_cutBand yX2_cutBand, Cond.code yX2_cutBand cX2_cutBand 5 none, Cond.fieldLink RX2 25 "TreemapLayout$Placer" "band" "LTreemapLayout$Box;", Cond.methodLink RX2 132 yX2_rowThickness, Cond.instanceMethod yX2_rowThickness, Cond.selects RX2 yX2_rowThickness yX2_rowThickness, Cond.code yX2_rowThickness cX2_rowThickness 5 (some .int), Cond.methodLink RX2 45 yX0_set, Cond.instanceMethod yX0_set, Cond.selects RX0 yX0_set yX0_set, Cond.code yX0_set cX0_set 5 none]
def wsX2_squarify_r4 : List Cond := [Cond.fieldLink RX0 7 "TreemapLayout$Box" "left" "I", Cond.fieldLink RX0 13 "TreemapLayout$Box" "top" "I", Cond.methodLink RX2 65 yX2_fillBand, Cond.instanceMethod yX2_fillBand, Cond.selects RX2 yX2_fillBand yX2_fillBand, Cond.code yX2_fillBand cX2_fillBand 8 none, Cond.fieldLink RX2 31 "TreemapLayout$Placer" "kidShares" "LTreemapLayout$Shares;", Cond.fieldLink RX2 79 "TreemapLayout$Shares" "pixels" "[I", Cond.methodLink RX2 86 yX4_clear, Cond.instanceMethod yX4_clear, Cond.selects RX4 yX4_clear yX4_clear, Cond.initialized RX4, Cond.code yX4_clear cX4_clear 1 none, Cond.fieldLink RX4 21 "TreemapLayout$Shares" "count" "I", Cond.methodLink RX2 97 yX4_add, Cond.instanceMethod yX4_add, Cond.selects RX4 yX4_add yX4_add, Cond.code yX4_add cX4_add 2 none, Cond.fieldLink RX4 9 "TreemapLayout$Shares" "partSizes" "[I", Cond.methodLink RX2 72 yX4_apportion, Cond.instanceMethod yX4_apportion, Cond.selects RX4 yX4_apportion yX4_apportion, Cond.code yX4_apportion cX4_apportion 6 none, Cond.fieldLink RX4 18 "TreemapLayout$Shares" "pixels" "[I"]
def wsX2_squarify_r5 : List Cond := [Cond.fieldLink RX4 15 "TreemapLayout$Shares" "remainders" "[I", Cond.methodLink RX4 25 yX4_largestRemainder, Cond.instanceMethod yX4_largestRemainder, Cond.selects RX4 yX4_largestRemainder yX4_largestRemainder, Cond.code yX4_largestRemainder cX4_largestRemainder 3 (some .int)]
def wsX2_squarify : List Cond := .code yX2_squarify cX2_squarify 6 none :: ((wsX2_squarify_r1 ++ (wsX2_squarify_r2 ++ (wsX2_squarify_r3 ++ (wsX2_squarify_r4 ++ wsX2_squarify_r5)))) ++ wsX20 ++ wsX00 ++ wsX30 ++ wsX40)
def wsX1_placeChildren_r1 : List Cond := [Cond.fieldLink RX1 86 "TreemapLayout$State" "padding" "I", Cond.fieldLink RX1 41 "TreemapLayout$Layout" "placer" "LTreemapLayout$Placer;", Cond.fieldLink RX1 25 "TreemapLayout$Layout" "rects" "LTreemapLayout$Rects;", Cond.fieldLink RX1 89 "TreemapLayout$Rects" "lefts" "[I", Cond.fieldLink RX1 92 "TreemapLayout$Rects" "tops" "[I", Cond.fieldLink RX1 95 "TreemapLayout$Rects" "widths" "[I", Cond.fieldLink RX1 98 "TreemapLayout$Rects" "heights" "[I", Cond.fieldLink RX1 32 "TreemapLayout$Layout" "firstChildren" "[I", Cond.fieldLink RX1 35 "TreemapLayout$Layout" "childCounts" "[I", Cond.fieldLink RX1 29 "TreemapLayout$Layout" "order" "[I", Cond.fieldLink RX1 18 "TreemapLayout$Layout" "hidden" "[Z", Cond.fieldLink RX1 9 "TreemapLayout$Layout" "sizes" "[I", Cond.fieldLink RX1 113 "TreemapLayout$State" "mode" "I", Cond.fieldLink RX1 15 "TreemapLayout$Layout" "depths" "[I", Cond.methodLink RX1 101 yX2_open, Cond.instanceMethod yX2_open, Cond.selects RX2 yX2_open yX2_open, Cond.initialized RX2, Cond.code yX2_open cX2_open 5 none, Cond.fieldLink RX2 41 "TreemapLayout$Placer" "kidCount" "I", Cond.fieldLink RX2 21 "TreemapLayout$Placer" "free" "LTreemapLayout$Box;", Cond.methodLink RX2 45 yX0_set, Cond.instanceMethod yX0_set, Cond.selects RX0 yX0_set yX0_set]
def wsX1_placeChildren_r2 : List Cond := [Cond.initialized RX0, Cond.code yX0_set cX0_set 5 none, Cond.fieldLink RX0 7 "TreemapLayout$Box" "left" "I", Cond.fieldLink RX0 13 "TreemapLayout$Box" "top" "I", Cond.fieldLink RX0 16 "TreemapLayout$Box" "wide" "I", Cond.fieldLink RX0 19 "TreemapLayout$Box" "high" "I", Cond.methodLink RX1 105 yX2_hasNoRoom, Cond.instanceMethod yX2_hasNoRoom, Cond.selects RX2 yX2_hasNoRoom yX2_hasNoRoom, Cond.code yX2_hasNoRoom cX2_hasNoRoom 1 (some .boolean), Cond.methodLink RX2 49 yX0_isEmpty, Cond.instanceMethod yX0_isEmpty, Cond.selects RX0 yX0_isEmpty yX0_isEmpty, Cond.code yX0_isEmpty cX0_isEmpty 1 (some .boolean), Cond.methodLink RX1 69 yX3_put, Cond.instanceMethod yX3_put, Cond.selects RX3 yX3_put yX3_put, Cond.initialized RX3, Cond.code yX3_put cX3_put 6 none, Cond.fieldLink RX3 9 "TreemapLayout$Rects" "lefts" "[I", Cond.fieldLink RX3 15 "TreemapLayout$Rects" "tops" "[I", Cond.fieldLink RX3 18 "TreemapLayout$Rects" "widths" "[I", Cond.fieldLink RX3 21 "TreemapLayout$Rects" "heights" "[I", Cond.methodLink RX1 109 yX2_add]
def wsX1_placeChildren_r3 : List Cond := [Cond.instanceMethod yX2_add, Cond.selects RX2 yX2_add yX2_add, Cond.code yX2_add cX2_add 3 none, Cond.fieldLink RX2 9 "TreemapLayout$Placer" "kids" "[I", Cond.fieldLink RX2 15 "TreemapLayout$Placer" "kidSizes" "[I", Cond.methodLink RX1 45 yX1_isLeaf, Cond.instanceMethod yX1_isLeaf, Cond.selects RX1 yX1_isLeaf yX1_isLeaf, Cond.initialized RX1, Cond.code yX1_isLeaf cX1_isLeaf 2 (some .boolean), Cond.methodLink RX1 116 yX2_slice, Cond.instanceMethod yX2_slice, Cond.selects RX2 yX2_slice yX2_slice, Cond.code yX2_slice cX2_slice 3 none, Cond.fieldLink RX2 25 "TreemapLayout$Placer" "band" "LTreemapLayout$Box;", Cond.fieldLink RX2 53 "TreemapLayout$Box" "left" "I", Cond.fieldLink RX2 56 "TreemapLayout$Box" "top" "I", Cond.fieldLink RX2 59 "TreemapLayout$Box" "wide" "I", Cond.fieldLink RX2 62 "TreemapLayout$Box" "high" "I", Cond.methodLink RX2 65 yX2_fillBand, Cond.instanceMethod yX2_fillBand, Cond.selects RX2 yX2_fillBand yX2_fillBand, Cond.code yX2_fillBand cX2_fillBand 8 none, Cond.fieldLink RX2 31 "TreemapLayout$Placer" "kidShares" "LTreemapLayout$Shares;"]
def wsX1_placeChildren_r4 : List Cond := [Cond.fieldLink RX2 79 "TreemapLayout$Shares" "pixels" "[I", Cond.methodLink RX2 86 yX4_clear, Cond.instanceMethod yX4_clear, Cond.selects RX4 yX4_clear yX4_clear, Cond.initialized RX4, Cond.code yX4_clear cX4_clear 1 none, Cond.fieldLink RX4 21 "TreemapLayout$Shares" "count" "I", Cond.methodLink RX2 97 yX4_add, Cond.instanceMethod yX4_add, Cond.selects RX4 yX4_add yX4_add, Cond.code yX4_add cX4_add 2 none, Cond.fieldLink RX4 9 "TreemapLayout$Shares" "partSizes" "[I", Cond.methodLink RX2 72 yX4_apportion, Cond.instanceMethod yX4_apportion, Cond.selects RX4 yX4_apportion yX4_apportion, Cond.code yX4_apportion cX4_apportion 6 none, Cond.fieldLink RX4 18 "TreemapLayout$Shares" "pixels" "[I", Cond.fieldLink RX4 15 "TreemapLayout$Shares" "remainders" "[I", Cond.methodLink RX4 25 yX4_largestRemainder, Cond.instanceMethod yX4_largestRemainder, Cond.selects RX4 yX4_largestRemainder yX4_largestRemainder, Cond.code yX4_largestRemainder cX4_largestRemainder 3 (some .int), Cond.methodLink RX2 136 yX3_put, Cond.methodLink RX1 120 yX2_strip]
def wsX1_placeChildren_r5 : List Cond := [Cond.instanceMethod yX2_strip, Cond.selects RX2 yX2_strip yX2_strip, Cond.code yX2_strip cX2_strip 5 none, Cond.fieldLink RX2 35 "TreemapLayout$Placer" "stripShares" "LTreemapLayout$Shares;", Cond.fieldLink RX2 76 "TreemapLayout$Shares" "count" "I", Cond.fieldLink RX2 38 "TreemapLayout$Placer" "stripEnds" "[I", Cond.methodLink RX2 69 yX2_splitIntoStrips, Cond.instanceMethod yX2_splitIntoStrips, Cond.selects RX2 yX2_splitIntoStrips yX2_splitIntoStrips, Cond.code yX2_splitIntoStrips cX2_splitIntoStrips 5 none, Cond.methodLink RX2 82 yX2_pixelsPerSize, Cond.instanceMethod yX2_pixelsPerSize, Cond.selects RX2 yX2_pixelsPerSize yX2_pixelsPerSize, Cond.code yX2_pixelsPerSize cX2_pixelsPerSize 3 (some .float), Cond.methodLink RX2 93 yX2_sumOfSizes, Cond.instanceMethod yX2_sumOfSizes, Cond.selects RX2 yX2_sumOfSizes yX2_sumOfSizes, Cond.code yX2_sumOfSizes cX2_sumOfSizes 5 (some .int), Cond.methodLink RX2 89 yX2_averageRatio, Cond.instanceMethod yX2_averageRatio, Cond.selects RX2 yX2_averageRatio yX2_averageRatio, Cond.code yX2_averageRatio cX2_averageRatio 7 (some .float), Cond.methodLink RX2 100 yX2_thicknessOf, Cond.static yX2_thicknessOf]
def wsX1_placeChildren_r6 : List Cond := [Cond.code yX2_thicknessOf cX2_thicknessOf 3 (some .float), Cond.methodLink RX2 104 yX2_ratio, Cond.static yX2_ratio, Cond.code yX2_ratio cX2_ratio 6 (some .float), Cond.methodLink RX1 124 yX2_squarify, Cond.instanceMethod yX2_squarify, Cond.selects RX2 yX2_squarify yX2_squarify, Cond.code yX2_squarify cX2_squarify 6 none, Cond.methodLink RX2 108 yX2_sortByFallingSize, Cond.instanceMethod yX2_sortByFallingSize, Cond.selects RX2 yX2_sortByFallingSize yX2_sortByFallingSize, Cond.code yX2_sortByFallingSize cX2_sortByFallingSize 5 none, Cond.methodLink RX2 111 yX2_collapse, Cond.instanceMethod yX2_collapse, Cond.selects RX2 yX2_collapse yX2_collapse, Cond.code yX2_collapse cX2_collapse 4 none, Cond.methodLink RX2 115 yX2_endOfRow, Cond.instanceMethod yX2_endOfRow, Cond.selects RX2 yX2_endOfRow yX2_endOfRow, Cond.code yX2_endOfRow cX2_endOfRow 7 (some .int), Cond.methodLink RX2 123 Lib.Math.min.name, Cond.static Lib.Math.min.name, Cond.initialized "java/lang/Math", Cond.code Lib.Math.min.name Lib.Math.min.code 2 (some .int)]
def wsX1_placeChildren_r7 : List Cond := [Cond.methodLink RX2 128 yX2_worstRatio, Cond.instanceMethod yX2_worstRatio, Cond.selects RX2 yX2_worstRatio yX2_worstRatio, Cond.code yX2_worstRatio cX2_worstRatio 9 (some .float), Cond.methodLink RX2 119 yX2_cutBand, Cond.instanceMethod yX2_cutBand, Cond.selects RX2 yX2_cutBand yX2_cutBand, Cond.code yX2_cutBand cX2_cutBand 5 none, Cond.methodLink RX2 132 yX2_rowThickness, Cond.instanceMethod yX2_rowThickness, Cond.selects RX2 yX2_rowThickness yX2_rowThickness, Cond.code yX2_rowThickness cX2_rowThickness 5 (some .int)]
def wsX1_placeChildren : List Cond := .code yX1_placeChildren cX1_placeChildren 8 none :: ((wsX1_placeChildren_r1 ++ (wsX1_placeChildren_r2 ++ (wsX1_placeChildren_r3 ++ (wsX1_placeChildren_r4 ++ (wsX1_placeChildren_r5 ++ (wsX1_placeChildren_r6 ++ wsX1_placeChildren_r7)))))) ++ wsX50 ++ wsX10 ++ wsX30 ++ wsX20 ++ wsX00 ++ wsX40)
def wsX1_arrange_r1 : List Cond := [Cond.fieldLink RX1 25 "TreemapLayout$Layout" "rects" "LTreemapLayout$Rects;", Cond.fieldLink RX1 60 "TreemapLayout$State" "canvasWidth" "I", Cond.fieldLink RX1 66 "TreemapLayout$State" "canvasHeight" "I", Cond.fieldLink RX1 18 "TreemapLayout$Layout" "hidden" "[Z", Cond.fieldLink RX1 73 "TreemapLayout$State" "count" "I", Cond.fieldLink RX1 29 "TreemapLayout$Layout" "order" "[I", Cond.methodLink RX1 53 yX1_orderNodes, Cond.instanceMethod yX1_orderNodes, Cond.selects RX1 yX1_orderNodes yX1_orderNodes, Cond.initialized RX1, Cond.code yX1_orderNodes cX1_orderNodes 6 none, Cond.fieldLink RX1 15 "TreemapLayout$Layout" "depths" "[I", Cond.fieldLink RX1 32 "TreemapLayout$Layout" "firstChildren" "[I", Cond.fieldLink RX1 80 "TreemapLayout$State" "parents" "[I", Cond.fieldLink RX1 35 "TreemapLayout$Layout" "childCounts" "[I", Cond.methodLink RX1 57 yX1_sumSizes, Cond.instanceMethod yX1_sumSizes, Cond.selects RX1 yX1_sumSizes yX1_sumSizes, Cond.code yX1_sumSizes cX1_sumSizes 7 none, Cond.fieldLink RX1 9 "TreemapLayout$Layout" "sizes" "[I", Cond.fieldLink RX1 83 "TreemapLayout$State" "ownSizes" "[I", Cond.methodLink RX1 45 yX1_isLeaf, Cond.instanceMethod yX1_isLeaf, Cond.selects RX1 yX1_isLeaf yX1_isLeaf]
def wsX1_arrange_r2 : List Cond := [Cond.code yX1_isLeaf cX1_isLeaf 2 (some .boolean), Cond.methodLink RX1 69 yX3_put, Cond.instanceMethod yX3_put, Cond.selects RX3 yX3_put yX3_put, Cond.initialized RX3, Cond.code yX3_put cX3_put 6 none, Cond.fieldLink RX3 9 "TreemapLayout$Rects" "lefts" "[I", Cond.fieldLink RX3 15 "TreemapLayout$Rects" "tops" "[I", Cond.fieldLink RX3 18 "TreemapLayout$Rects" "widths" "[I", Cond.fieldLink RX3 21 "TreemapLayout$Rects" "heights" "[I", Cond.methodLink RX1 76 yX1_placeChildren, Cond.instanceMethod yX1_placeChildren, Cond.selects RX1 yX1_placeChildren yX1_placeChildren, Cond.code yX1_placeChildren cX1_placeChildren 8 none, Cond.fieldLink RX1 86 "TreemapLayout$State" "padding" "I", Cond.fieldLink RX1 41 "TreemapLayout$Layout" "placer" "LTreemapLayout$Placer;", Cond.fieldLink RX1 89 "TreemapLayout$Rects" "lefts" "[I", Cond.fieldLink RX1 92 "TreemapLayout$Rects" "tops" "[I", Cond.fieldLink RX1 95 "TreemapLayout$Rects" "widths" "[I", Cond.fieldLink RX1 98 "TreemapLayout$Rects" "heights" "[I", Cond.fieldLink RX1 113 "TreemapLayout$State" "mode" "I", Cond.methodLink RX1 101 yX2_open, Cond.instanceMethod yX2_open, Cond.selects RX2 yX2_open yX2_open]
def wsX1_arrange_r3 : List Cond := [Cond.initialized RX2, Cond.code yX2_open cX2_open 5 none, Cond.fieldLink RX2 41 "TreemapLayout$Placer" "kidCount" "I", Cond.fieldLink RX2 21 "TreemapLayout$Placer" "free" "LTreemapLayout$Box;", Cond.methodLink RX2 45 yX0_set, Cond.instanceMethod yX0_set, Cond.selects RX0 yX0_set yX0_set, Cond.initialized RX0, Cond.code yX0_set cX0_set 5 none, Cond.fieldLink RX0 7 "TreemapLayout$Box" "left" "I", Cond.fieldLink RX0 13 "TreemapLayout$Box" "top" "I", Cond.fieldLink RX0 16 "TreemapLayout$Box" "wide" "I", Cond.fieldLink RX0 19 "TreemapLayout$Box" "high" "I", Cond.methodLink RX1 105 yX2_hasNoRoom, Cond.instanceMethod yX2_hasNoRoom, Cond.selects RX2 yX2_hasNoRoom yX2_hasNoRoom, Cond.code yX2_hasNoRoom cX2_hasNoRoom 1 (some .boolean), Cond.methodLink RX2 49 yX0_isEmpty, Cond.instanceMethod yX0_isEmpty, Cond.selects RX0 yX0_isEmpty yX0_isEmpty, Cond.code yX0_isEmpty cX0_isEmpty 1 (some .boolean), Cond.methodLink RX1 109 yX2_add, Cond.instanceMethod yX2_add, Cond.selects RX2 yX2_add yX2_add]
def wsX1_arrange_r4 : List Cond := [Cond.code yX2_add cX2_add 3 none, Cond.fieldLink RX2 9 "TreemapLayout$Placer" "kids" "[I", Cond.fieldLink RX2 15 "TreemapLayout$Placer" "kidSizes" "[I", Cond.methodLink RX1 116 yX2_slice, Cond.instanceMethod yX2_slice, Cond.selects RX2 yX2_slice yX2_slice, Cond.code yX2_slice cX2_slice 3 none, Cond.fieldLink RX2 25 "TreemapLayout$Placer" "band" "LTreemapLayout$Box;", Cond.fieldLink RX2 53 "TreemapLayout$Box" "left" "I", Cond.fieldLink RX2 56 "TreemapLayout$Box" "top" "I", Cond.fieldLink RX2 59 "TreemapLayout$Box" "wide" "I", Cond.fieldLink RX2 62 "TreemapLayout$Box" "high" "I", Cond.methodLink RX2 65 yX2_fillBand, Cond.instanceMethod yX2_fillBand, Cond.selects RX2 yX2_fillBand yX2_fillBand, Cond.code yX2_fillBand cX2_fillBand 8 none, Cond.fieldLink RX2 31 "TreemapLayout$Placer" "kidShares" "LTreemapLayout$Shares;", Cond.fieldLink RX2 79 "TreemapLayout$Shares" "pixels" "[I", Cond.methodLink RX2 86 yX4_clear, Cond.instanceMethod yX4_clear, Cond.selects RX4 yX4_clear yX4_clear, Cond.initialized RX4, Cond.code yX4_clear cX4_clear 1 none, Cond.fieldLink RX4 21 "TreemapLayout$Shares" "count" "I"]
def wsX1_arrange_r5 : List Cond := [Cond.methodLink RX2 97 yX4_add, Cond.instanceMethod yX4_add, Cond.selects RX4 yX4_add yX4_add, Cond.code yX4_add cX4_add 2 none, Cond.fieldLink RX4 9 "TreemapLayout$Shares" "partSizes" "[I", Cond.methodLink RX2 72 yX4_apportion, Cond.instanceMethod yX4_apportion, Cond.selects RX4 yX4_apportion yX4_apportion, Cond.code yX4_apportion cX4_apportion 6 none, Cond.fieldLink RX4 18 "TreemapLayout$Shares" "pixels" "[I", Cond.fieldLink RX4 15 "TreemapLayout$Shares" "remainders" "[I", Cond.methodLink RX4 25 yX4_largestRemainder, Cond.instanceMethod yX4_largestRemainder, Cond.selects RX4 yX4_largestRemainder yX4_largestRemainder, Cond.code yX4_largestRemainder cX4_largestRemainder 3 (some .int), Cond.methodLink RX2 136 yX3_put, Cond.methodLink RX1 120 yX2_strip, Cond.instanceMethod yX2_strip, Cond.selects RX2 yX2_strip yX2_strip, Cond.code yX2_strip cX2_strip 5 none, Cond.fieldLink RX2 35 "TreemapLayout$Placer" "stripShares" "LTreemapLayout$Shares;", Cond.fieldLink RX2 76 "TreemapLayout$Shares" "count" "I", Cond.fieldLink RX2 38 "TreemapLayout$Placer" "stripEnds" "[I", Cond.methodLink RX2 69 yX2_splitIntoStrips]
def wsX1_arrange_r6 : List Cond := [Cond.instanceMethod yX2_splitIntoStrips, Cond.selects RX2 yX2_splitIntoStrips yX2_splitIntoStrips, Cond.code yX2_splitIntoStrips cX2_splitIntoStrips 5 none, Cond.methodLink RX2 82 yX2_pixelsPerSize, Cond.instanceMethod yX2_pixelsPerSize, Cond.selects RX2 yX2_pixelsPerSize yX2_pixelsPerSize, Cond.code yX2_pixelsPerSize cX2_pixelsPerSize 3 (some .float), Cond.methodLink RX2 93 yX2_sumOfSizes, Cond.instanceMethod yX2_sumOfSizes, Cond.selects RX2 yX2_sumOfSizes yX2_sumOfSizes, Cond.code yX2_sumOfSizes cX2_sumOfSizes 5 (some .int), Cond.methodLink RX2 89 yX2_averageRatio, Cond.instanceMethod yX2_averageRatio, Cond.selects RX2 yX2_averageRatio yX2_averageRatio, Cond.code yX2_averageRatio cX2_averageRatio 7 (some .float), Cond.methodLink RX2 100 yX2_thicknessOf, Cond.static yX2_thicknessOf, Cond.code yX2_thicknessOf cX2_thicknessOf 3 (some .float), Cond.methodLink RX2 104 yX2_ratio, Cond.static yX2_ratio, Cond.code yX2_ratio cX2_ratio 6 (some .float), Cond.methodLink RX1 124 yX2_squarify, Cond.instanceMethod yX2_squarify, Cond.selects RX2 yX2_squarify yX2_squarify]
def wsX1_arrange_r7 : List Cond := [Cond.code yX2_squarify cX2_squarify 6 none, Cond.methodLink RX2 108 yX2_sortByFallingSize, Cond.instanceMethod yX2_sortByFallingSize, Cond.selects RX2 yX2_sortByFallingSize yX2_sortByFallingSize, Cond.code yX2_sortByFallingSize cX2_sortByFallingSize 5 none, Cond.methodLink RX2 111 yX2_collapse, Cond.instanceMethod yX2_collapse, Cond.selects RX2 yX2_collapse yX2_collapse, Cond.code yX2_collapse cX2_collapse 4 none, Cond.methodLink RX2 115 yX2_endOfRow, Cond.instanceMethod yX2_endOfRow, Cond.selects RX2 yX2_endOfRow yX2_endOfRow, Cond.code yX2_endOfRow cX2_endOfRow 7 (some .int), Cond.methodLink RX2 123 Lib.Math.min.name, Cond.static Lib.Math.min.name, Cond.initialized "java/lang/Math", Cond.code Lib.Math.min.name Lib.Math.min.code 2 (some .int), Cond.methodLink RX2 128 yX2_worstRatio, Cond.instanceMethod yX2_worstRatio, Cond.selects RX2 yX2_worstRatio yX2_worstRatio, Cond.code yX2_worstRatio cX2_worstRatio 9 (some .float), Cond.methodLink RX2 119 yX2_cutBand, Cond.instanceMethod yX2_cutBand, Cond.selects RX2 yX2_cutBand yX2_cutBand]
def wsX1_arrange_r8 : List Cond := [Cond.code yX2_cutBand cX2_cutBand 5 none, Cond.methodLink RX2 132 yX2_rowThickness, Cond.instanceMethod yX2_rowThickness, Cond.selects RX2 yX2_rowThickness yX2_rowThickness, Cond.code yX2_rowThickness cX2_rowThickness 5 (some .int)]
def wsX1_arrange : List Cond := .code yX1_arrange cX1_arrange 3 none :: ((wsX1_arrange_r1 ++ (wsX1_arrange_r2 ++ (wsX1_arrange_r3 ++ (wsX1_arrange_r4 ++ (wsX1_arrange_r5 ++ (wsX1_arrange_r6 ++ (wsX1_arrange_r7 ++ wsX1_arrange_r8))))))) ++ wsX10 ++ wsX50 ++ wsX30 ++ wsX20 ++ wsX00 ++ wsX40)
def wsX3_contain : List Cond := .code yX3_contain cX3_contain 4 (some .boolean) :: ([.fieldLink RX3 9 "TreemapLayout$Rects" "lefts" "[I", .fieldLink RX3 18 "TreemapLayout$Rects" "widths" "[I", .fieldLink RX3 15 "TreemapLayout$Rects" "tops" "[I", .fieldLink RX3 21 "TreemapLayout$Rects" "heights" "[I"] ++ wsX30)
def wsX3_aspect : List Cond := .code yX3_aspect cX3_aspect 4 (some .float) :: ([.fieldLink RX3 18 "TreemapLayout$Rects" "widths" "[I", .fieldLink RX3 21 "TreemapLayout$Rects" "heights" "[I", .methodLink RX3 24 Lib.Math.max.name, .static Lib.Math.max.name, .initialized "java/lang/Math", .code Lib.Math.max.name Lib.Math.max.code 2 (some .int), .methodLink RX3 30 Lib.Math.min.name, .static Lib.Math.min.name, .code Lib.Math.min.name Lib.Math.min.code 2 (some .int)] ++ wsX30)
def wsX3_difference : List Cond := .code yX3_difference cX3_difference 3 (some .int) :: ([.fieldLink RX3 9 "TreemapLayout$Rects" "lefts" "[I", .methodLink RX3 33 Lib.Math.abs.name, .static Lib.Math.abs.name, .initialized "java/lang/Math", .code Lib.Math.abs.name Lib.Math.abs.code 1 (some .int), .fieldLink RX3 15 "TreemapLayout$Rects" "tops" "[I", .fieldLink RX3 18 "TreemapLayout$Rects" "widths" "[I", .fieldLink RX3 21 "TreemapLayout$Rects" "heights" "[I"] ++ wsX30)
def wsX5_init : List Cond := .code yX5_init cX5_init 1 none :: ([.methodLink RX5 3 objectInit, .instanceMethod objectInit, .code objectInit ⟨#[0xb1]⟩ 1 none, .arrayClass .int, .fieldLink RX5 9 "TreemapLayout$State" "ownSizes" "[I", .fieldLink RX5 15 "TreemapLayout$State" "parents" "[I", .fieldLink RX5 18 "TreemapLayout$State" "count" "I", .fieldLink RX5 22 "TreemapLayout$State" "canvasWidth" "I", .fieldLink RX5 25 "TreemapLayout$State" "canvasHeight" "I", .fieldLink RX5 28 "TreemapLayout$State" "padding" "I", .fieldLink RX5 31 "TreemapLayout$State" "mode" "I"] ++ wsX50)
def wsX5_copyFrom : List Cond := .code yX5_copyFrom cX5_copyFrom 2 none :: ([.fieldLink RX5 9 "TreemapLayout$State" "ownSizes" "[I", .methodLink RX5 34 arraycopyName, .native arraycopyName, .static arraycopyName, .initialized "java/lang/System", .fieldLink RX5 15 "TreemapLayout$State" "parents" "[I", .fieldLink RX5 18 "TreemapLayout$State" "count" "I", .fieldLink RX5 22 "TreemapLayout$State" "canvasWidth" "I", .fieldLink RX5 25 "TreemapLayout$State" "canvasHeight" "I", .fieldLink RX5 28 "TreemapLayout$State" "padding" "I", .fieldLink RX5 31 "TreemapLayout$State" "mode" "I"] ++ wsX50)
def wsX5_has : List Cond := .code yX5_has cX5_has 2 (some .boolean) :: ([.fieldLink RX5 18 "TreemapLayout$State" "count" "I"] ++ wsX50)
def wsX5_isWithin : List Cond := .code yX5_isWithin cX5_isWithin 5 (some .boolean) :: ([.fieldLink RX5 15 "TreemapLayout$State" "parents" "[I", .methodLink RX5 40 yX5_has, .instanceMethod yX5_has, .selects RX5 yX5_has yX5_has, .initialized RX5, .code yX5_has cX5_has 2 (some .boolean), .fieldLink RX5 18 "TreemapLayout$State" "count" "I"] ++ wsX50)
def wsX5_append : List Cond := .code yX5_append cX5_append 3 none :: ([.fieldLink RX5 18 "TreemapLayout$State" "count" "I", .fieldLink RX5 9 "TreemapLayout$State" "ownSizes" "[I", .fieldLink RX5 15 "TreemapLayout$State" "parents" "[I"] ++ wsX50)
def wsX5_takeOut : List Cond := .code yX5_takeOut cX5_takeOut 3 none :: ([.fieldLink RX5 18 "TreemapLayout$State" "count" "I", .fieldLink RX5 9 "TreemapLayout$State" "ownSizes" "[I", .fieldLink RX5 15 "TreemapLayout$State" "parents" "[I", .methodLink RX5 40 yX5_has, .instanceMethod yX5_has, .selects RX5 yX5_has yX5_has, .initialized RX5, .code yX5_has cX5_has 2 (some .boolean)] ++ wsX50)
def wsX6_init : List Cond := .code yX6_init cX6_init 2 none :: ([.methodLink RX6 3 objectInit, .instanceMethod objectInit, .code objectInit ⟨#[0xb1]⟩ 1 none, .classLink RX6 9 RX5, .fieldLink RX6 11 "TreemapLayout$UndoStack" "slots" "[LTreemapLayout$State;", .instantiable RX5 7, .initialized RX5, .methodLink RX6 17 yX5_init, .instanceMethod yX5_init, .code yX5_init cX5_init 1 none, .methodLink RX5 3 objectInit, .arrayClass .int, .fieldLink RX5 9 "TreemapLayout$State" "ownSizes" "[I", .fieldLink RX5 15 "TreemapLayout$State" "parents" "[I", .fieldLink RX5 18 "TreemapLayout$State" "count" "I", .fieldLink RX5 22 "TreemapLayout$State" "canvasWidth" "I", .fieldLink RX5 25 "TreemapLayout$State" "canvasHeight" "I", .fieldLink RX5 28 "TreemapLayout$State" "padding" "I", .fieldLink RX5 31 "TreemapLayout$State" "mode" "I"] ++ wsX60 ++ wsX50)
def wsX6_push : List Cond := .code yX6_push cX6_push 2 none :: ([.fieldLink RX6 11 "TreemapLayout$UndoStack" "slots" "[LTreemapLayout$State;", .fieldLink RX6 18 "TreemapLayout$UndoStack" "next" "I", .fieldLink RX6 26 "TreemapLayout$UndoStack" "count" "I", .methodLink RX6 22 yX5_copyFrom, .instanceMethod yX5_copyFrom, .selects RX5 yX5_copyFrom yX5_copyFrom, .initialized RX5, .code yX5_copyFrom cX5_copyFrom 2 none, .fieldLink RX5 9 "TreemapLayout$State" "ownSizes" "[I", .methodLink RX5 34 arraycopyName, .native arraycopyName, .static arraycopyName, .initialized "java/lang/System", .fieldLink RX5 15 "TreemapLayout$State" "parents" "[I", .fieldLink RX5 18 "TreemapLayout$State" "count" "I", .fieldLink RX5 22 "TreemapLayout$State" "canvasWidth" "I", .fieldLink RX5 25 "TreemapLayout$State" "canvasHeight" "I", .fieldLink RX5 28 "TreemapLayout$State" "padding" "I", .fieldLink RX5 31 "TreemapLayout$State" "mode" "I"] ++ wsX60 ++ wsX50)
def wsX6_popInto : List Cond := .code yX6_popInto cX6_popInto 2 none :: ([.fieldLink RX6 26 "TreemapLayout$UndoStack" "count" "I", .fieldLink RX6 18 "TreemapLayout$UndoStack" "next" "I", .fieldLink RX6 11 "TreemapLayout$UndoStack" "slots" "[LTreemapLayout$State;", .methodLink RX6 22 yX5_copyFrom, .instanceMethod yX5_copyFrom, .selects RX5 yX5_copyFrom yX5_copyFrom, .initialized RX5, .code yX5_copyFrom cX5_copyFrom 2 none, .fieldLink RX5 9 "TreemapLayout$State" "ownSizes" "[I", .methodLink RX5 34 arraycopyName, .native arraycopyName, .static arraycopyName, .initialized "java/lang/System", .fieldLink RX5 15 "TreemapLayout$State" "parents" "[I", .fieldLink RX5 18 "TreemapLayout$State" "count" "I", .fieldLink RX5 22 "TreemapLayout$State" "canvasWidth" "I", .fieldLink RX5 25 "TreemapLayout$State" "canvasHeight" "I", .fieldLink RX5 28 "TreemapLayout$State" "padding" "I", .fieldLink RX5 31 "TreemapLayout$State" "mode" "I"] ++ wsX60 ++ wsX50)
def wsX7_init_r1 : List Cond := [Cond.methodLink RX7 1 objectInit, Cond.instanceMethod objectInit, Cond.code objectInit ⟨#[0xb1]⟩ 1 none, Cond.classLink RX7 7 RX5, Cond.instantiable RX5 7, Cond.initialized RX5, Cond.fieldLink RX7 10 "TreemapLayout" "state" "LTreemapLayout$State;", Cond.classLink RX7 16 RX1, Cond.instantiable RX1 8, Cond.initialized RX1, Cond.fieldLink RX7 19 "TreemapLayout" "layout" "LTreemapLayout$Layout;", Cond.classLink RX7 23 RX6, Cond.instantiable RX6 3, Cond.initialized RX6, Cond.fieldLink RX7 26 "TreemapLayout" "saved" "LTreemapLayout$UndoStack;", Cond.fieldLink RX7 30 "TreemapLayout" "trialState" "LTreemapLayout$State;", Cond.fieldLink RX7 33 "TreemapLayout" "trialLayout" "LTreemapLayout$Layout;", Cond.methodLink RX7 9 yX5_init, Cond.instanceMethod yX5_init, Cond.code yX5_init cX5_init 1 none, Cond.methodLink RX5 3 objectInit, Cond.arrayClass .int, Cond.fieldLink RX5 9 "TreemapLayout$State" "ownSizes" "[I", Cond.fieldLink RX5 15 "TreemapLayout$State" "parents" "[I"]
def wsX7_init_r2 : List Cond := [Cond.fieldLink RX5 18 "TreemapLayout$State" "count" "I", Cond.fieldLink RX5 22 "TreemapLayout$State" "canvasWidth" "I", Cond.fieldLink RX5 25 "TreemapLayout$State" "canvasHeight" "I", Cond.fieldLink RX5 28 "TreemapLayout$State" "padding" "I", Cond.fieldLink RX5 31 "TreemapLayout$State" "mode" "I", Cond.instanceMethod yX1_init, Cond.code yX1_init cX1_init 1 none, Cond.methodLink RX1 3 objectInit, Cond.fieldLink RX1 9 "TreemapLayout$Layout" "sizes" "[I", Cond.fieldLink RX1 15 "TreemapLayout$Layout" "depths" "[I", Cond.arrayClass .boolean, Cond.fieldLink RX1 18 "TreemapLayout$Layout" "hidden" "[Z", Cond.classLink RX1 22 RX3, Cond.instantiable RX3 4, Cond.initialized RX3, Cond.fieldLink RX1 25 "TreemapLayout$Layout" "rects" "LTreemapLayout$Rects;", Cond.fieldLink RX1 29 "TreemapLayout$Layout" "order" "[I", Cond.fieldLink RX1 32 "TreemapLayout$Layout" "firstChildren" "[I", Cond.fieldLink RX1 35 "TreemapLayout$Layout" "childCounts" "[I", Cond.classLink RX1 38 RX2, Cond.instantiable RX2 8, Cond.initialized RX2, Cond.fieldLink RX1 41 "TreemapLayout$Layout" "placer" "LTreemapLayout$Placer;", Cond.instanceMethod yX3_init]
def wsX7_init_r3 : List Cond := [Cond.code yX3_init cX3_init 1 none, Cond.methodLink RX3 3 objectInit, Cond.fieldLink RX3 9 "TreemapLayout$Rects" "lefts" "[I", Cond.fieldLink RX3 15 "TreemapLayout$Rects" "tops" "[I", Cond.fieldLink RX3 18 "TreemapLayout$Rects" "widths" "[I", Cond.fieldLink RX3 21 "TreemapLayout$Rects" "heights" "[I", Cond.instanceMethod yX2_init, Cond.code yX2_init cX2_init 1 none, Cond.methodLink RX2 3 objectInit, Cond.fieldLink RX2 9 "TreemapLayout$Placer" "kids" "[I", Cond.fieldLink RX2 15 "TreemapLayout$Placer" "kidSizes" "[I", Cond.classLink RX2 18 RX0, Cond.instantiable RX0 4, Cond.initialized RX0, Cond.fieldLink RX2 21 "TreemapLayout$Placer" "free" "LTreemapLayout$Box;", Cond.fieldLink RX2 25 "TreemapLayout$Placer" "band" "LTreemapLayout$Box;", Cond.classLink RX2 28 RX4, Cond.instantiable RX4 4, Cond.initialized RX4, Cond.fieldLink RX2 31 "TreemapLayout$Placer" "kidShares" "LTreemapLayout$Shares;", Cond.fieldLink RX2 35 "TreemapLayout$Placer" "stripShares" "LTreemapLayout$Shares;", Cond.fieldLink RX2 38 "TreemapLayout$Placer" "stripEnds" "[I", Cond.instanceMethod yX0_init, Cond.code yX0_init cX0_init 1 none]
def wsX7_init_r4 : List Cond := [Cond.methodLink RX0 1 objectInit, Cond.instanceMethod yX4_init, Cond.code yX4_init cX4_init 1 none, Cond.methodLink RX4 3 objectInit, Cond.fieldLink RX4 9 "TreemapLayout$Shares" "partSizes" "[I", Cond.fieldLink RX4 15 "TreemapLayout$Shares" "remainders" "[I", Cond.fieldLink RX4 18 "TreemapLayout$Shares" "pixels" "[I", Cond.methodLink RX7 25 yX6_init, Cond.instanceMethod yX6_init, Cond.code yX6_init cX6_init 2 none, Cond.methodLink RX6 3 objectInit, Cond.classLink RX6 9 RX5, Cond.fieldLink RX6 11 "TreemapLayout$UndoStack" "slots" "[LTreemapLayout$State;", Cond.methodLink RX6 17 yX5_init, Cond.methodLink RX7 36 yX1_arrange, Cond.instanceMethod yX1_arrange, Cond.selects RX1 yX1_arrange yX1_arrange, Cond.code yX1_arrange cX1_arrange 3 none, Cond.fieldLink RX1 60 "TreemapLayout$State" "canvasWidth" "I", Cond.fieldLink RX1 66 "TreemapLayout$State" "canvasHeight" "I", Cond.fieldLink RX1 73 "TreemapLayout$State" "count" "I", Cond.methodLink RX1 53 yX1_orderNodes, Cond.instanceMethod yX1_orderNodes, Cond.selects RX1 yX1_orderNodes yX1_orderNodes]
def wsX7_init_r5 : List Cond := [Cond.code yX1_orderNodes cX1_orderNodes 6 none, Cond.fieldLink RX1 80 "TreemapLayout$State" "parents" "[I", Cond.methodLink RX1 57 yX1_sumSizes, Cond.instanceMethod yX1_sumSizes, Cond.selects RX1 yX1_sumSizes yX1_sumSizes, Cond.code yX1_sumSizes cX1_sumSizes 7 none, Cond.fieldLink RX1 83 "TreemapLayout$State" "ownSizes" "[I", Cond.methodLink RX1 45 yX1_isLeaf, Cond.instanceMethod yX1_isLeaf, Cond.selects RX1 yX1_isLeaf yX1_isLeaf, Cond.code yX1_isLeaf cX1_isLeaf 2 (some .boolean), Cond.methodLink RX1 69 yX3_put, Cond.instanceMethod yX3_put, Cond.selects RX3 yX3_put yX3_put, Cond.code yX3_put cX3_put 6 none, Cond.methodLink RX1 76 yX1_placeChildren, Cond.instanceMethod yX1_placeChildren, Cond.selects RX1 yX1_placeChildren yX1_placeChildren, Cond.code yX1_placeChildren cX1_placeChildren 8 none, Cond.fieldLink RX1 86 "TreemapLayout$State" "padding" "I", Cond.fieldLink RX1 89 "TreemapLayout$Rects" "lefts" "[I", Cond.fieldLink RX1 92 "TreemapLayout$Rects" "tops" "[I", Cond.fieldLink RX1 95 "TreemapLayout$Rects" "widths" "[I", Cond.fieldLink RX1 98 "TreemapLayout$Rects" "heights" "[I"]
def wsX7_init_r6 : List Cond := [Cond.fieldLink RX1 113 "TreemapLayout$State" "mode" "I", Cond.methodLink RX1 101 yX2_open, Cond.instanceMethod yX2_open, Cond.selects RX2 yX2_open yX2_open, Cond.code yX2_open cX2_open 5 none, Cond.fieldLink RX2 41 "TreemapLayout$Placer" "kidCount" "I", Cond.methodLink RX2 45 yX0_set, Cond.instanceMethod yX0_set, Cond.selects RX0 yX0_set yX0_set, Cond.code yX0_set cX0_set 5 none, Cond.fieldLink RX0 7 "TreemapLayout$Box" "left" "I", Cond.fieldLink RX0 13 "TreemapLayout$Box" "top" "I", Cond.fieldLink RX0 16 "TreemapLayout$Box" "wide" "I", Cond.fieldLink RX0 19 "TreemapLayout$Box" "high" "I", Cond.methodLink RX1 105 yX2_hasNoRoom, Cond.instanceMethod yX2_hasNoRoom, Cond.selects RX2 yX2_hasNoRoom yX2_hasNoRoom, Cond.code yX2_hasNoRoom cX2_hasNoRoom 1 (some .boolean), Cond.methodLink RX2 49 yX0_isEmpty, Cond.instanceMethod yX0_isEmpty, Cond.selects RX0 yX0_isEmpty yX0_isEmpty, Cond.code yX0_isEmpty cX0_isEmpty 1 (some .boolean), Cond.methodLink RX1 109 yX2_add, Cond.instanceMethod yX2_add]
def wsX7_init_r7 : List Cond := [Cond.selects RX2 yX2_add yX2_add, Cond.code yX2_add cX2_add 3 none, Cond.methodLink RX1 116 yX2_slice, Cond.instanceMethod yX2_slice, Cond.selects RX2 yX2_slice yX2_slice, Cond.code yX2_slice cX2_slice 3 none, Cond.fieldLink RX2 53 "TreemapLayout$Box" "left" "I", Cond.fieldLink RX2 56 "TreemapLayout$Box" "top" "I", Cond.fieldLink RX2 59 "TreemapLayout$Box" "wide" "I", Cond.fieldLink RX2 62 "TreemapLayout$Box" "high" "I", Cond.methodLink RX2 65 yX2_fillBand, Cond.instanceMethod yX2_fillBand, Cond.selects RX2 yX2_fillBand yX2_fillBand, Cond.code yX2_fillBand cX2_fillBand 8 none, Cond.fieldLink RX2 79 "TreemapLayout$Shares" "pixels" "[I", Cond.methodLink RX2 86 yX4_clear, Cond.instanceMethod yX4_clear, Cond.selects RX4 yX4_clear yX4_clear, Cond.code yX4_clear cX4_clear 1 none, Cond.fieldLink RX4 21 "TreemapLayout$Shares" "count" "I", Cond.methodLink RX2 97 yX4_add, Cond.instanceMethod yX4_add, Cond.selects RX4 yX4_add yX4_add, Cond.code yX4_add cX4_add 2 none]
def wsX7_init_r8 : List Cond := [Cond.methodLink RX2 72 yX4_apportion, Cond.instanceMethod yX4_apportion, Cond.selects RX4 yX4_apportion yX4_apportion, Cond.code yX4_apportion cX4_apportion 6 none, Cond.methodLink RX4 25 yX4_largestRemainder, Cond.instanceMethod yX4_largestRemainder, Cond.selects RX4 yX4_largestRemainder yX4_largestRemainder, Cond.code yX4_largestRemainder cX4_largestRemainder 3 (some .int), Cond.methodLink RX2 136 yX3_put, Cond.methodLink RX1 120 yX2_strip, Cond.instanceMethod yX2_strip, Cond.selects RX2 yX2_strip yX2_strip, Cond.code yX2_strip cX2_strip 5 none, Cond.fieldLink RX2 76 "TreemapLayout$Shares" "count" "I", Cond.methodLink RX2 69 yX2_splitIntoStrips, Cond.instanceMethod yX2_splitIntoStrips, Cond.selects RX2 yX2_splitIntoStrips yX2_splitIntoStrips, Cond.code yX2_splitIntoStrips cX2_splitIntoStrips 5 none, Cond.methodLink RX2 82 yX2_pixelsPerSize, Cond.instanceMethod yX2_pixelsPerSize, Cond.selects RX2 yX2_pixelsPerSize yX2_pixelsPerSize, Cond.code yX2_pixelsPerSize cX2_pixelsPerSize 3 (some .float), Cond.methodLink RX2 93 yX2_sumOfSizes, Cond.instanceMethod yX2_sumOfSizes]
def wsX7_init_r9 : List Cond := [Cond.selects RX2 yX2_sumOfSizes yX2_sumOfSizes, Cond.code yX2_sumOfSizes cX2_sumOfSizes 5 (some .int), Cond.methodLink RX2 89 yX2_averageRatio, Cond.instanceMethod yX2_averageRatio, Cond.selects RX2 yX2_averageRatio yX2_averageRatio, Cond.code yX2_averageRatio cX2_averageRatio 7 (some .float), Cond.methodLink RX2 100 yX2_thicknessOf, Cond.static yX2_thicknessOf, Cond.code yX2_thicknessOf cX2_thicknessOf 3 (some .float), Cond.methodLink RX2 104 yX2_ratio, Cond.static yX2_ratio, Cond.code yX2_ratio cX2_ratio 6 (some .float), Cond.methodLink RX1 124 yX2_squarify, Cond.instanceMethod yX2_squarify, Cond.selects RX2 yX2_squarify yX2_squarify, Cond.code yX2_squarify cX2_squarify 6 none, Cond.methodLink RX2 108 yX2_sortByFallingSize, Cond.instanceMethod yX2_sortByFallingSize, Cond.selects RX2 yX2_sortByFallingSize yX2_sortByFallingSize, Cond.code yX2_sortByFallingSize cX2_sortByFallingSize 5 none, Cond.methodLink RX2 111 yX2_collapse, Cond.instanceMethod yX2_collapse, Cond.selects RX2 yX2_collapse yX2_collapse, Cond.code yX2_collapse cX2_collapse 4 none]
def wsX7_init_r10 : List Cond := [Cond.methodLink RX2 115 yX2_endOfRow, Cond.instanceMethod yX2_endOfRow, Cond.selects RX2 yX2_endOfRow yX2_endOfRow, Cond.code yX2_endOfRow cX2_endOfRow 7 (some .int), Cond.methodLink RX2 123 Lib.Math.min.name, Cond.static Lib.Math.min.name, Cond.initialized "java/lang/Math", Cond.code Lib.Math.min.name Lib.Math.min.code 2 (some .int), Cond.methodLink RX2 128 yX2_worstRatio, Cond.instanceMethod yX2_worstRatio, Cond.selects RX2 yX2_worstRatio yX2_worstRatio, Cond.code yX2_worstRatio cX2_worstRatio 9 (some .float), Cond.methodLink RX2 119 yX2_cutBand, Cond.instanceMethod yX2_cutBand, Cond.selects RX2 yX2_cutBand yX2_cutBand, Cond.code yX2_cutBand cX2_cutBand 5 none, Cond.methodLink RX2 132 yX2_rowThickness, Cond.instanceMethod yX2_rowThickness, Cond.selects RX2 yX2_rowThickness yX2_rowThickness, Cond.code yX2_rowThickness cX2_rowThickness 5 (some .int)]
def wsX7_init : List Cond := .code yX7_init cX7_init 1 none :: ((wsX7_init_r1 ++ (wsX7_init_r2 ++ (wsX7_init_r3 ++ (wsX7_init_r4 ++ (wsX7_init_r5 ++ (wsX7_init_r6 ++ (wsX7_init_r7 ++ (wsX7_init_r8 ++ (wsX7_init_r9 ++ wsX7_init_r10))))))))) ++ wsX50 ++ wsX70 ++ wsX10 ++ wsX60 ++ wsX30 ++ wsX20 ++ wsX00 ++ wsX40)
def wsX7_isSize : List Cond := .code yX7_isSize cX7_isSize 1 (some .boolean) :: ([])
def wsX7_failInvalid : List Cond := .code yX7_failInvalid cX7_failInvalid 1 (some .int) :: ([.fieldLink RX7 158 "TreemapLayout" "invalidCalls" "I"] ++ wsX70)
def wsX7_failFull : List Cond := .code yX7_failFull cX7_failFull 1 (some .int) :: ([.fieldLink RX7 164 "TreemapLayout" "fullCalls" "I"] ++ wsX70)
def wsX7_addNode_r1 : List Cond := [Cond.fieldLink RX7 10 "TreemapLayout" "state" "LTreemapLayout$State;", Cond.fieldLink RX7 51 "TreemapLayout$State" "count" "I", Cond.fieldLink RX7 26 "TreemapLayout" "saved" "LTreemapLayout$UndoStack;", Cond.fieldLink RX7 19 "TreemapLayout" "layout" "LTreemapLayout$Layout;", Cond.methodLink RX7 40 yX5_has, Cond.instanceMethod yX5_has, Cond.selects RX5 yX5_has yX5_has, Cond.initialized RX5, Cond.code yX5_has cX5_has 2 (some .boolean), Cond.fieldLink RX5 18 "TreemapLayout$State" "count" "I", Cond.methodLink RX7 44 yX7_isSize, Cond.static yX7_isSize, Cond.initialized RX7, Cond.code yX7_isSize cX7_isSize 1 (some .boolean), Cond.methodLink RX7 47 yX7_failInvalid, Cond.instanceMethod yX7_failInvalid, Cond.selects RX7 yX7_failInvalid yX7_failInvalid, Cond.code yX7_failInvalid cX7_failInvalid 1 (some .int), Cond.fieldLink RX7 158 "TreemapLayout" "invalidCalls" "I", Cond.methodLink RX7 55 yX7_failFull, Cond.instanceMethod yX7_failFull, Cond.selects RX7 yX7_failFull yX7_failFull, Cond.code yX7_failFull cX7_failFull 1 (some .int), Cond.fieldLink RX7 164 "TreemapLayout" "fullCalls" "I"]
def wsX7_addNode_r2 : List Cond := [Cond.methodLink RX7 58 yX6_push, Cond.instanceMethod yX6_push, Cond.selects RX6 yX6_push yX6_push, Cond.initialized RX6, Cond.code yX6_push cX6_push 2 none, Cond.fieldLink RX6 11 "TreemapLayout$UndoStack" "slots" "[LTreemapLayout$State;", Cond.fieldLink RX6 18 "TreemapLayout$UndoStack" "next" "I", Cond.fieldLink RX6 26 "TreemapLayout$UndoStack" "count" "I", Cond.methodLink RX6 22 yX5_copyFrom, Cond.instanceMethod yX5_copyFrom, Cond.selects RX5 yX5_copyFrom yX5_copyFrom, Cond.code yX5_copyFrom cX5_copyFrom 2 none, Cond.fieldLink RX5 9 "TreemapLayout$State" "ownSizes" "[I", Cond.methodLink RX5 34 arraycopyName, Cond.native arraycopyName, Cond.static arraycopyName, Cond.initialized "java/lang/System", Cond.fieldLink RX5 15 "TreemapLayout$State" "parents" "[I", Cond.fieldLink RX5 22 "TreemapLayout$State" "canvasWidth" "I", Cond.fieldLink RX5 25 "TreemapLayout$State" "canvasHeight" "I", Cond.fieldLink RX5 28 "TreemapLayout$State" "padding" "I", Cond.fieldLink RX5 31 "TreemapLayout$State" "mode" "I", Cond.methodLink RX7 61 yX5_append, Cond.instanceMethod yX5_append]
def wsX7_addNode_r3 : List Cond := [Cond.selects RX5 yX5_append yX5_append, Cond.code yX5_append cX5_append 3 none, Cond.methodLink RX7 36 yX1_arrange, Cond.instanceMethod yX1_arrange, Cond.selects RX1 yX1_arrange yX1_arrange, Cond.initialized RX1, Cond.code yX1_arrange cX1_arrange 3 none, Cond.fieldLink RX1 25 "TreemapLayout$Layout" "rects" "LTreemapLayout$Rects;", Cond.fieldLink RX1 60 "TreemapLayout$State" "canvasWidth" "I", Cond.fieldLink RX1 66 "TreemapLayout$State" "canvasHeight" "I", Cond.fieldLink RX1 18 "TreemapLayout$Layout" "hidden" "[Z", Cond.fieldLink RX1 73 "TreemapLayout$State" "count" "I", Cond.fieldLink RX1 29 "TreemapLayout$Layout" "order" "[I", Cond.methodLink RX1 53 yX1_orderNodes, Cond.instanceMethod yX1_orderNodes, Cond.selects RX1 yX1_orderNodes yX1_orderNodes, Cond.code yX1_orderNodes cX1_orderNodes 6 none, Cond.fieldLink RX1 15 "TreemapLayout$Layout" "depths" "[I", Cond.fieldLink RX1 32 "TreemapLayout$Layout" "firstChildren" "[I", Cond.fieldLink RX1 80 "TreemapLayout$State" "parents" "[I", Cond.fieldLink RX1 35 "TreemapLayout$Layout" "childCounts" "[I", Cond.methodLink RX1 57 yX1_sumSizes, Cond.instanceMethod yX1_sumSizes, Cond.selects RX1 yX1_sumSizes yX1_sumSizes]
def wsX7_addNode_r4 : List Cond := [Cond.code yX1_sumSizes cX1_sumSizes 7 none, Cond.fieldLink RX1 9 "TreemapLayout$Layout" "sizes" "[I", Cond.fieldLink RX1 83 "TreemapLayout$State" "ownSizes" "[I", Cond.methodLink RX1 45 yX1_isLeaf, Cond.instanceMethod yX1_isLeaf, Cond.selects RX1 yX1_isLeaf yX1_isLeaf, Cond.code yX1_isLeaf cX1_isLeaf 2 (some .boolean), Cond.methodLink RX1 69 yX3_put, Cond.instanceMethod yX3_put, Cond.selects RX3 yX3_put yX3_put, Cond.initialized RX3, Cond.code yX3_put cX3_put 6 none, Cond.fieldLink RX3 9 "TreemapLayout$Rects" "lefts" "[I", Cond.fieldLink RX3 15 "TreemapLayout$Rects" "tops" "[I", Cond.fieldLink RX3 18 "TreemapLayout$Rects" "widths" "[I", Cond.fieldLink RX3 21 "TreemapLayout$Rects" "heights" "[I", Cond.methodLink RX1 76 yX1_placeChildren, Cond.instanceMethod yX1_placeChildren, Cond.selects RX1 yX1_placeChildren yX1_placeChildren, Cond.code yX1_placeChildren cX1_placeChildren 8 none, Cond.fieldLink RX1 86 "TreemapLayout$State" "padding" "I", Cond.fieldLink RX1 41 "TreemapLayout$Layout" "placer" "LTreemapLayout$Placer;", Cond.fieldLink RX1 89 "TreemapLayout$Rects" "lefts" "[I", Cond.fieldLink RX1 92 "TreemapLayout$Rects" "tops" "[I"]
def wsX7_addNode_r5 : List Cond := [Cond.fieldLink RX1 95 "TreemapLayout$Rects" "widths" "[I", Cond.fieldLink RX1 98 "TreemapLayout$Rects" "heights" "[I", Cond.fieldLink RX1 113 "TreemapLayout$State" "mode" "I", Cond.methodLink RX1 101 yX2_open, Cond.instanceMethod yX2_open, Cond.selects RX2 yX2_open yX2_open, Cond.initialized RX2, Cond.code yX2_open cX2_open 5 none, Cond.fieldLink RX2 41 "TreemapLayout$Placer" "kidCount" "I", Cond.fieldLink RX2 21 "TreemapLayout$Placer" "free" "LTreemapLayout$Box;", Cond.methodLink RX2 45 yX0_set, Cond.instanceMethod yX0_set, Cond.selects RX0 yX0_set yX0_set, Cond.initialized RX0, Cond.code yX0_set cX0_set 5 none, Cond.fieldLink RX0 7 "TreemapLayout$Box" "left" "I", Cond.fieldLink RX0 13 "TreemapLayout$Box" "top" "I", Cond.fieldLink RX0 16 "TreemapLayout$Box" "wide" "I", Cond.fieldLink RX0 19 "TreemapLayout$Box" "high" "I", Cond.methodLink RX1 105 yX2_hasNoRoom, Cond.instanceMethod yX2_hasNoRoom, Cond.selects RX2 yX2_hasNoRoom yX2_hasNoRoom, Cond.code yX2_hasNoRoom cX2_hasNoRoom 1 (some .boolean), Cond.methodLink RX2 49 yX0_isEmpty]
def wsX7_addNode_r6 : List Cond := [Cond.instanceMethod yX0_isEmpty, Cond.selects RX0 yX0_isEmpty yX0_isEmpty, Cond.code yX0_isEmpty cX0_isEmpty 1 (some .boolean), Cond.methodLink RX1 109 yX2_add, Cond.instanceMethod yX2_add, Cond.selects RX2 yX2_add yX2_add, Cond.code yX2_add cX2_add 3 none, Cond.fieldLink RX2 9 "TreemapLayout$Placer" "kids" "[I", Cond.fieldLink RX2 15 "TreemapLayout$Placer" "kidSizes" "[I", Cond.methodLink RX1 116 yX2_slice, Cond.instanceMethod yX2_slice, Cond.selects RX2 yX2_slice yX2_slice, Cond.code yX2_slice cX2_slice 3 none, Cond.fieldLink RX2 25 "TreemapLayout$Placer" "band" "LTreemapLayout$Box;", Cond.fieldLink RX2 53 "TreemapLayout$Box" "left" "I", Cond.fieldLink RX2 56 "TreemapLayout$Box" "top" "I", Cond.fieldLink RX2 59 "TreemapLayout$Box" "wide" "I", Cond.fieldLink RX2 62 "TreemapLayout$Box" "high" "I", Cond.methodLink RX2 65 yX2_fillBand, Cond.instanceMethod yX2_fillBand, Cond.selects RX2 yX2_fillBand yX2_fillBand, Cond.code yX2_fillBand cX2_fillBand 8 none, Cond.fieldLink RX2 31 "TreemapLayout$Placer" "kidShares" "LTreemapLayout$Shares;", Cond.fieldLink RX2 79 "TreemapLayout$Shares" "pixels" "[I"]
def wsX7_addNode_r7 : List Cond := [Cond.methodLink RX2 86 yX4_clear, Cond.instanceMethod yX4_clear, Cond.selects RX4 yX4_clear yX4_clear, Cond.initialized RX4, Cond.code yX4_clear cX4_clear 1 none, Cond.fieldLink RX4 21 "TreemapLayout$Shares" "count" "I", Cond.methodLink RX2 97 yX4_add, Cond.instanceMethod yX4_add, Cond.selects RX4 yX4_add yX4_add, Cond.code yX4_add cX4_add 2 none, Cond.fieldLink RX4 9 "TreemapLayout$Shares" "partSizes" "[I", Cond.methodLink RX2 72 yX4_apportion, Cond.instanceMethod yX4_apportion, Cond.selects RX4 yX4_apportion yX4_apportion, Cond.code yX4_apportion cX4_apportion 6 none, Cond.fieldLink RX4 18 "TreemapLayout$Shares" "pixels" "[I", Cond.fieldLink RX4 15 "TreemapLayout$Shares" "remainders" "[I", Cond.methodLink RX4 25 yX4_largestRemainder, Cond.instanceMethod yX4_largestRemainder, Cond.selects RX4 yX4_largestRemainder yX4_largestRemainder, Cond.code yX4_largestRemainder cX4_largestRemainder 3 (some .int), Cond.methodLink RX2 136 yX3_put, Cond.methodLink RX1 120 yX2_strip, Cond.instanceMethod yX2_strip]
def wsX7_addNode_r8 : List Cond := [Cond.selects RX2 yX2_strip yX2_strip, Cond.code yX2_strip cX2_strip 5 none, Cond.fieldLink RX2 35 "TreemapLayout$Placer" "stripShares" "LTreemapLayout$Shares;", Cond.fieldLink RX2 76 "TreemapLayout$Shares" "count" "I", Cond.fieldLink RX2 38 "TreemapLayout$Placer" "stripEnds" "[I", Cond.methodLink RX2 69 yX2_splitIntoStrips, Cond.instanceMethod yX2_splitIntoStrips, Cond.selects RX2 yX2_splitIntoStrips yX2_splitIntoStrips, Cond.code yX2_splitIntoStrips cX2_splitIntoStrips 5 none, Cond.methodLink RX2 82 yX2_pixelsPerSize, Cond.instanceMethod yX2_pixelsPerSize, Cond.selects RX2 yX2_pixelsPerSize yX2_pixelsPerSize, Cond.code yX2_pixelsPerSize cX2_pixelsPerSize 3 (some .float), Cond.methodLink RX2 93 yX2_sumOfSizes, Cond.instanceMethod yX2_sumOfSizes, Cond.selects RX2 yX2_sumOfSizes yX2_sumOfSizes, Cond.code yX2_sumOfSizes cX2_sumOfSizes 5 (some .int), Cond.methodLink RX2 89 yX2_averageRatio, Cond.instanceMethod yX2_averageRatio, Cond.selects RX2 yX2_averageRatio yX2_averageRatio, Cond.code yX2_averageRatio cX2_averageRatio 7 (some .float), Cond.methodLink RX2 100 yX2_thicknessOf, Cond.static yX2_thicknessOf, Cond.code yX2_thicknessOf cX2_thicknessOf 3 (some .float)]
def wsX7_addNode_r9 : List Cond := [Cond.methodLink RX2 104 yX2_ratio, Cond.static yX2_ratio, Cond.code yX2_ratio cX2_ratio 6 (some .float), Cond.methodLink RX1 124 yX2_squarify, Cond.instanceMethod yX2_squarify, Cond.selects RX2 yX2_squarify yX2_squarify, Cond.code yX2_squarify cX2_squarify 6 none, Cond.methodLink RX2 108 yX2_sortByFallingSize, Cond.instanceMethod yX2_sortByFallingSize, Cond.selects RX2 yX2_sortByFallingSize yX2_sortByFallingSize, Cond.code yX2_sortByFallingSize cX2_sortByFallingSize 5 none, Cond.methodLink RX2 111 yX2_collapse, Cond.instanceMethod yX2_collapse, Cond.selects RX2 yX2_collapse yX2_collapse, Cond.code yX2_collapse cX2_collapse 4 none, Cond.methodLink RX2 115 yX2_endOfRow, Cond.instanceMethod yX2_endOfRow, Cond.selects RX2 yX2_endOfRow yX2_endOfRow, Cond.code yX2_endOfRow cX2_endOfRow 7 (some .int), Cond.methodLink RX2 123 Lib.Math.min.name, Cond.static Lib.Math.min.name, Cond.initialized "java/lang/Math", Cond.code Lib.Math.min.name Lib.Math.min.code 2 (some .int), Cond.methodLink RX2 128 yX2_worstRatio]
def wsX7_addNode_r10 : List Cond := [Cond.instanceMethod yX2_worstRatio, Cond.selects RX2 yX2_worstRatio yX2_worstRatio, Cond.code yX2_worstRatio cX2_worstRatio 9 (some .float), Cond.methodLink RX2 119 yX2_cutBand, Cond.instanceMethod yX2_cutBand, Cond.selects RX2 yX2_cutBand yX2_cutBand, Cond.code yX2_cutBand cX2_cutBand 5 none, Cond.methodLink RX2 132 yX2_rowThickness, Cond.instanceMethod yX2_rowThickness, Cond.selects RX2 yX2_rowThickness yX2_rowThickness, Cond.code yX2_rowThickness cX2_rowThickness 5 (some .int)]
def wsX7_addNode : List Cond := .code yX7_addNode cX7_addNode 3 (some .int) :: ((wsX7_addNode_r1 ++ (wsX7_addNode_r2 ++ (wsX7_addNode_r3 ++ (wsX7_addNode_r4 ++ (wsX7_addNode_r5 ++ (wsX7_addNode_r6 ++ (wsX7_addNode_r7 ++ (wsX7_addNode_r8 ++ (wsX7_addNode_r9 ++ wsX7_addNode_r10))))))))) ++ wsX70 ++ wsX50 ++ wsX60 ++ wsX10 ++ wsX30 ++ wsX20 ++ wsX00 ++ wsX40)
def wsX7_setSize_r1 : List Cond := [Cond.fieldLink RX7 10 "TreemapLayout" "state" "LTreemapLayout$State;", Cond.fieldLink RX7 26 "TreemapLayout" "saved" "LTreemapLayout$UndoStack;", Cond.fieldLink RX7 65 "TreemapLayout$State" "ownSizes" "[I", Cond.fieldLink RX7 19 "TreemapLayout" "layout" "LTreemapLayout$Layout;", Cond.methodLink RX7 40 yX5_has, Cond.instanceMethod yX5_has, Cond.selects RX5 yX5_has yX5_has, Cond.initialized RX5, Cond.code yX5_has cX5_has 2 (some .boolean), Cond.fieldLink RX5 18 "TreemapLayout$State" "count" "I", Cond.methodLink RX7 44 yX7_isSize, Cond.static yX7_isSize, Cond.initialized RX7, Cond.code yX7_isSize cX7_isSize 1 (some .boolean), Cond.methodLink RX7 47 yX7_failInvalid, Cond.instanceMethod yX7_failInvalid, Cond.selects RX7 yX7_failInvalid yX7_failInvalid, Cond.code yX7_failInvalid cX7_failInvalid 1 (some .int), Cond.fieldLink RX7 158 "TreemapLayout" "invalidCalls" "I", Cond.methodLink RX7 58 yX6_push, Cond.instanceMethod yX6_push, Cond.selects RX6 yX6_push yX6_push, Cond.initialized RX6, Cond.code yX6_push cX6_push 2 none]
def wsX7_setSize_r2 : List Cond := [Cond.fieldLink RX6 11 "TreemapLayout$UndoStack" "slots" "[LTreemapLayout$State;", Cond.fieldLink RX6 18 "TreemapLayout$UndoStack" "next" "I", Cond.fieldLink RX6 26 "TreemapLayout$UndoStack" "count" "I", Cond.methodLink RX6 22 yX5_copyFrom, Cond.instanceMethod yX5_copyFrom, Cond.selects RX5 yX5_copyFrom yX5_copyFrom, Cond.code yX5_copyFrom cX5_copyFrom 2 none, Cond.fieldLink RX5 9 "TreemapLayout$State" "ownSizes" "[I", Cond.methodLink RX5 34 arraycopyName, Cond.native arraycopyName, Cond.static arraycopyName, Cond.initialized "java/lang/System", Cond.fieldLink RX5 15 "TreemapLayout$State" "parents" "[I", Cond.fieldLink RX5 22 "TreemapLayout$State" "canvasWidth" "I", Cond.fieldLink RX5 25 "TreemapLayout$State" "canvasHeight" "I", Cond.fieldLink RX5 28 "TreemapLayout$State" "padding" "I", Cond.fieldLink RX5 31 "TreemapLayout$State" "mode" "I", Cond.methodLink RX7 36 yX1_arrange, Cond.instanceMethod yX1_arrange, Cond.selects RX1 yX1_arrange yX1_arrange, Cond.initialized RX1, Cond.code yX1_arrange cX1_arrange 3 none, Cond.fieldLink RX1 25 "TreemapLayout$Layout" "rects" "LTreemapLayout$Rects;", Cond.fieldLink RX1 60 "TreemapLayout$State" "canvasWidth" "I"]
def wsX7_setSize_r3 : List Cond := [Cond.fieldLink RX1 66 "TreemapLayout$State" "canvasHeight" "I", Cond.fieldLink RX1 18 "TreemapLayout$Layout" "hidden" "[Z", Cond.fieldLink RX1 73 "TreemapLayout$State" "count" "I", Cond.fieldLink RX1 29 "TreemapLayout$Layout" "order" "[I", Cond.methodLink RX1 53 yX1_orderNodes, Cond.instanceMethod yX1_orderNodes, Cond.selects RX1 yX1_orderNodes yX1_orderNodes, Cond.code yX1_orderNodes cX1_orderNodes 6 none, Cond.fieldLink RX1 15 "TreemapLayout$Layout" "depths" "[I", Cond.fieldLink RX1 32 "TreemapLayout$Layout" "firstChildren" "[I", Cond.fieldLink RX1 80 "TreemapLayout$State" "parents" "[I", Cond.fieldLink RX1 35 "TreemapLayout$Layout" "childCounts" "[I", Cond.methodLink RX1 57 yX1_sumSizes, Cond.instanceMethod yX1_sumSizes, Cond.selects RX1 yX1_sumSizes yX1_sumSizes, Cond.code yX1_sumSizes cX1_sumSizes 7 none, Cond.fieldLink RX1 9 "TreemapLayout$Layout" "sizes" "[I", Cond.fieldLink RX1 83 "TreemapLayout$State" "ownSizes" "[I", Cond.methodLink RX1 45 yX1_isLeaf, Cond.instanceMethod yX1_isLeaf, Cond.selects RX1 yX1_isLeaf yX1_isLeaf, Cond.code yX1_isLeaf cX1_isLeaf 2 (some .boolean), Cond.methodLink RX1 69 yX3_put, Cond.instanceMethod yX3_put]
def wsX7_setSize_r4 : List Cond := [Cond.selects RX3 yX3_put yX3_put, Cond.initialized RX3, Cond.code yX3_put cX3_put 6 none, Cond.fieldLink RX3 9 "TreemapLayout$Rects" "lefts" "[I", Cond.fieldLink RX3 15 "TreemapLayout$Rects" "tops" "[I", Cond.fieldLink RX3 18 "TreemapLayout$Rects" "widths" "[I", Cond.fieldLink RX3 21 "TreemapLayout$Rects" "heights" "[I", Cond.methodLink RX1 76 yX1_placeChildren, Cond.instanceMethod yX1_placeChildren, Cond.selects RX1 yX1_placeChildren yX1_placeChildren, Cond.code yX1_placeChildren cX1_placeChildren 8 none, Cond.fieldLink RX1 86 "TreemapLayout$State" "padding" "I", Cond.fieldLink RX1 41 "TreemapLayout$Layout" "placer" "LTreemapLayout$Placer;", Cond.fieldLink RX1 89 "TreemapLayout$Rects" "lefts" "[I", Cond.fieldLink RX1 92 "TreemapLayout$Rects" "tops" "[I", Cond.fieldLink RX1 95 "TreemapLayout$Rects" "widths" "[I", Cond.fieldLink RX1 98 "TreemapLayout$Rects" "heights" "[I", Cond.fieldLink RX1 113 "TreemapLayout$State" "mode" "I", Cond.methodLink RX1 101 yX2_open, Cond.instanceMethod yX2_open, Cond.selects RX2 yX2_open yX2_open, Cond.initialized RX2, Cond.code yX2_open cX2_open 5 none, Cond.fieldLink RX2 41 "TreemapLayout$Placer" "kidCount" "I"]
def wsX7_setSize_r5 : List Cond := [Cond.fieldLink RX2 21 "TreemapLayout$Placer" "free" "LTreemapLayout$Box;", Cond.methodLink RX2 45 yX0_set, Cond.instanceMethod yX0_set, Cond.selects RX0 yX0_set yX0_set, Cond.initialized RX0, Cond.code yX0_set cX0_set 5 none, Cond.fieldLink RX0 7 "TreemapLayout$Box" "left" "I", Cond.fieldLink RX0 13 "TreemapLayout$Box" "top" "I", Cond.fieldLink RX0 16 "TreemapLayout$Box" "wide" "I", Cond.fieldLink RX0 19 "TreemapLayout$Box" "high" "I", Cond.methodLink RX1 105 yX2_hasNoRoom, Cond.instanceMethod yX2_hasNoRoom, Cond.selects RX2 yX2_hasNoRoom yX2_hasNoRoom, Cond.code yX2_hasNoRoom cX2_hasNoRoom 1 (some .boolean), Cond.methodLink RX2 49 yX0_isEmpty, Cond.instanceMethod yX0_isEmpty, Cond.selects RX0 yX0_isEmpty yX0_isEmpty, Cond.code yX0_isEmpty cX0_isEmpty 1 (some .boolean), Cond.methodLink RX1 109 yX2_add, Cond.instanceMethod yX2_add, Cond.selects RX2 yX2_add yX2_add, Cond.code yX2_add cX2_add 3 none, Cond.fieldLink RX2 9 "TreemapLayout$Placer" "kids" "[I", Cond.fieldLink RX2 15 "TreemapLayout$Placer" "kidSizes" "[I"]
def wsX7_setSize_r6 : List Cond := [Cond.methodLink RX1 116 yX2_slice, Cond.instanceMethod yX2_slice, Cond.selects RX2 yX2_slice yX2_slice, Cond.code yX2_slice cX2_slice 3 none, Cond.fieldLink RX2 25 "TreemapLayout$Placer" "band" "LTreemapLayout$Box;", Cond.fieldLink RX2 53 "TreemapLayout$Box" "left" "I", Cond.fieldLink RX2 56 "TreemapLayout$Box" "top" "I", Cond.fieldLink RX2 59 "TreemapLayout$Box" "wide" "I", Cond.fieldLink RX2 62 "TreemapLayout$Box" "high" "I", Cond.methodLink RX2 65 yX2_fillBand, Cond.instanceMethod yX2_fillBand, Cond.selects RX2 yX2_fillBand yX2_fillBand, Cond.code yX2_fillBand cX2_fillBand 8 none, Cond.fieldLink RX2 31 "TreemapLayout$Placer" "kidShares" "LTreemapLayout$Shares;", Cond.fieldLink RX2 79 "TreemapLayout$Shares" "pixels" "[I", Cond.methodLink RX2 86 yX4_clear, Cond.instanceMethod yX4_clear, Cond.selects RX4 yX4_clear yX4_clear, Cond.initialized RX4, Cond.code yX4_clear cX4_clear 1 none, Cond.fieldLink RX4 21 "TreemapLayout$Shares" "count" "I", Cond.methodLink RX2 97 yX4_add, Cond.instanceMethod yX4_add, Cond.selects RX4 yX4_add yX4_add]
def wsX7_setSize_r7 : List Cond := [Cond.code yX4_add cX4_add 2 none, Cond.fieldLink RX4 9 "TreemapLayout$Shares" "partSizes" "[I", Cond.methodLink RX2 72 yX4_apportion, Cond.instanceMethod yX4_apportion, Cond.selects RX4 yX4_apportion yX4_apportion, Cond.code yX4_apportion cX4_apportion 6 none, Cond.fieldLink RX4 18 "TreemapLayout$Shares" "pixels" "[I", Cond.fieldLink RX4 15 "TreemapLayout$Shares" "remainders" "[I", Cond.methodLink RX4 25 yX4_largestRemainder, Cond.instanceMethod yX4_largestRemainder, Cond.selects RX4 yX4_largestRemainder yX4_largestRemainder, Cond.code yX4_largestRemainder cX4_largestRemainder 3 (some .int), Cond.methodLink RX2 136 yX3_put, Cond.methodLink RX1 120 yX2_strip, Cond.instanceMethod yX2_strip, Cond.selects RX2 yX2_strip yX2_strip, Cond.code yX2_strip cX2_strip 5 none, Cond.fieldLink RX2 35 "TreemapLayout$Placer" "stripShares" "LTreemapLayout$Shares;", Cond.fieldLink RX2 76 "TreemapLayout$Shares" "count" "I", Cond.fieldLink RX2 38 "TreemapLayout$Placer" "stripEnds" "[I", Cond.methodLink RX2 69 yX2_splitIntoStrips, Cond.instanceMethod yX2_splitIntoStrips, Cond.selects RX2 yX2_splitIntoStrips yX2_splitIntoStrips, Cond.code yX2_splitIntoStrips cX2_splitIntoStrips 5 none]
def wsX7_setSize_r8 : List Cond := [Cond.methodLink RX2 82 yX2_pixelsPerSize, Cond.instanceMethod yX2_pixelsPerSize, Cond.selects RX2 yX2_pixelsPerSize yX2_pixelsPerSize, Cond.code yX2_pixelsPerSize cX2_pixelsPerSize 3 (some .float), Cond.methodLink RX2 93 yX2_sumOfSizes, Cond.instanceMethod yX2_sumOfSizes, Cond.selects RX2 yX2_sumOfSizes yX2_sumOfSizes, Cond.code yX2_sumOfSizes cX2_sumOfSizes 5 (some .int), Cond.methodLink RX2 89 yX2_averageRatio, Cond.instanceMethod yX2_averageRatio, Cond.selects RX2 yX2_averageRatio yX2_averageRatio, Cond.code yX2_averageRatio cX2_averageRatio 7 (some .float), Cond.methodLink RX2 100 yX2_thicknessOf, Cond.static yX2_thicknessOf, Cond.code yX2_thicknessOf cX2_thicknessOf 3 (some .float), Cond.methodLink RX2 104 yX2_ratio, Cond.static yX2_ratio, Cond.code yX2_ratio cX2_ratio 6 (some .float), Cond.methodLink RX1 124 yX2_squarify, Cond.instanceMethod yX2_squarify, Cond.selects RX2 yX2_squarify yX2_squarify, Cond.code yX2_squarify cX2_squarify 6 none, Cond.methodLink RX2 108 yX2_sortByFallingSize, Cond.instanceMethod yX2_sortByFallingSize]
def wsX7_setSize_r9 : List Cond := [Cond.selects RX2 yX2_sortByFallingSize yX2_sortByFallingSize, Cond.code yX2_sortByFallingSize cX2_sortByFallingSize 5 none, Cond.methodLink RX2 111 yX2_collapse, Cond.instanceMethod yX2_collapse, Cond.selects RX2 yX2_collapse yX2_collapse, Cond.code yX2_collapse cX2_collapse 4 none, Cond.methodLink RX2 115 yX2_endOfRow, Cond.instanceMethod yX2_endOfRow, Cond.selects RX2 yX2_endOfRow yX2_endOfRow, Cond.code yX2_endOfRow cX2_endOfRow 7 (some .int), Cond.methodLink RX2 123 Lib.Math.min.name, Cond.static Lib.Math.min.name, Cond.initialized "java/lang/Math", Cond.code Lib.Math.min.name Lib.Math.min.code 2 (some .int), Cond.methodLink RX2 128 yX2_worstRatio, Cond.instanceMethod yX2_worstRatio, Cond.selects RX2 yX2_worstRatio yX2_worstRatio, Cond.code yX2_worstRatio cX2_worstRatio 9 (some .float), Cond.methodLink RX2 119 yX2_cutBand, Cond.instanceMethod yX2_cutBand, Cond.selects RX2 yX2_cutBand yX2_cutBand, Cond.code yX2_cutBand cX2_cutBand 5 none, Cond.methodLink RX2 132 yX2_rowThickness, Cond.instanceMethod yX2_rowThickness]
def wsX7_setSize_r10 : List Cond := [Cond.selects RX2 yX2_rowThickness yX2_rowThickness, Cond.code yX2_rowThickness cX2_rowThickness 5 (some .int)]
def wsX7_setSize : List Cond := .code yX7_setSize cX7_setSize 4 (some .int) :: ((wsX7_setSize_r1 ++ (wsX7_setSize_r2 ++ (wsX7_setSize_r3 ++ (wsX7_setSize_r4 ++ (wsX7_setSize_r5 ++ (wsX7_setSize_r6 ++ (wsX7_setSize_r7 ++ (wsX7_setSize_r8 ++ (wsX7_setSize_r9 ++ wsX7_setSize_r10))))))))) ++ wsX70 ++ wsX50 ++ wsX60 ++ wsX10 ++ wsX30 ++ wsX20 ++ wsX00 ++ wsX40)
def wsX7_failRejected : List Cond := .code yX7_failRejected cX7_failRejected 1 (some .int) :: ([.fieldLink RX7 161 "TreemapLayout" "rejectedCalls" "I"] ++ wsX70)
def wsX7_removeLeaf_r1 : List Cond := [Cond.fieldLink RX7 10 "TreemapLayout" "state" "LTreemapLayout$State;", Cond.fieldLink RX7 19 "TreemapLayout" "layout" "LTreemapLayout$Layout;", Cond.fieldLink RX7 26 "TreemapLayout" "saved" "LTreemapLayout$UndoStack;", Cond.fieldLink RX7 51 "TreemapLayout$State" "count" "I", Cond.methodLink RX7 40 yX5_has, Cond.instanceMethod yX5_has, Cond.selects RX5 yX5_has yX5_has, Cond.initialized RX5, Cond.code yX5_has cX5_has 2 (some .boolean), Cond.fieldLink RX5 18 "TreemapLayout$State" "count" "I", Cond.methodLink RX7 47 yX7_failInvalid, Cond.instanceMethod yX7_failInvalid, Cond.selects RX7 yX7_failInvalid yX7_failInvalid, Cond.initialized RX7, Cond.code yX7_failInvalid cX7_failInvalid 1 (some .int), Cond.fieldLink RX7 158 "TreemapLayout" "invalidCalls" "I", Cond.methodLink RX7 69 yX1_isLeaf, Cond.instanceMethod yX1_isLeaf, Cond.selects RX1 yX1_isLeaf yX1_isLeaf, Cond.initialized RX1, Cond.code yX1_isLeaf cX1_isLeaf 2 (some .boolean), Cond.fieldLink RX1 35 "TreemapLayout$Layout" "childCounts" "[I", Cond.methodLink RX7 72 yX7_failRejected, Cond.instanceMethod yX7_failRejected]
def wsX7_removeLeaf_r2 : List Cond := [Cond.selects RX7 yX7_failRejected yX7_failRejected, Cond.code yX7_failRejected cX7_failRejected 1 (some .int), Cond.fieldLink RX7 161 "TreemapLayout" "rejectedCalls" "I", Cond.methodLink RX7 58 yX6_push, Cond.instanceMethod yX6_push, Cond.selects RX6 yX6_push yX6_push, Cond.initialized RX6, Cond.code yX6_push cX6_push 2 none, Cond.fieldLink RX6 11 "TreemapLayout$UndoStack" "slots" "[LTreemapLayout$State;", Cond.fieldLink RX6 18 "TreemapLayout$UndoStack" "next" "I", Cond.fieldLink RX6 26 "TreemapLayout$UndoStack" "count" "I", Cond.methodLink RX6 22 yX5_copyFrom, Cond.instanceMethod yX5_copyFrom, Cond.selects RX5 yX5_copyFrom yX5_copyFrom, Cond.code yX5_copyFrom cX5_copyFrom 2 none, Cond.fieldLink RX5 9 "TreemapLayout$State" "ownSizes" "[I", Cond.methodLink RX5 34 arraycopyName, Cond.native arraycopyName, Cond.static arraycopyName, Cond.initialized "java/lang/System", Cond.fieldLink RX5 15 "TreemapLayout$State" "parents" "[I", Cond.fieldLink RX5 22 "TreemapLayout$State" "canvasWidth" "I", Cond.fieldLink RX5 25 "TreemapLayout$State" "canvasHeight" "I", Cond.fieldLink RX5 28 "TreemapLayout$State" "padding" "I"]
def wsX7_removeLeaf_r3 : List Cond := [Cond.fieldLink RX5 31 "TreemapLayout$State" "mode" "I", Cond.methodLink RX7 75 yX5_takeOut, Cond.instanceMethod yX5_takeOut, Cond.selects RX5 yX5_takeOut yX5_takeOut, Cond.code yX5_takeOut cX5_takeOut 3 none, Cond.methodLink RX5 40 yX5_has, Cond.methodLink RX7 36 yX1_arrange, Cond.instanceMethod yX1_arrange, Cond.selects RX1 yX1_arrange yX1_arrange, Cond.code yX1_arrange cX1_arrange 3 none, Cond.fieldLink RX1 25 "TreemapLayout$Layout" "rects" "LTreemapLayout$Rects;", Cond.fieldLink RX1 60 "TreemapLayout$State" "canvasWidth" "I", Cond.fieldLink RX1 66 "TreemapLayout$State" "canvasHeight" "I", Cond.fieldLink RX1 18 "TreemapLayout$Layout" "hidden" "[Z", Cond.fieldLink RX1 73 "TreemapLayout$State" "count" "I", Cond.fieldLink RX1 29 "TreemapLayout$Layout" "order" "[I", Cond.methodLink RX1 53 yX1_orderNodes, Cond.instanceMethod yX1_orderNodes, Cond.selects RX1 yX1_orderNodes yX1_orderNodes, Cond.code yX1_orderNodes cX1_orderNodes 6 none, Cond.fieldLink RX1 15 "TreemapLayout$Layout" "depths" "[I", Cond.fieldLink RX1 32 "TreemapLayout$Layout" "firstChildren" "[I", Cond.fieldLink RX1 80 "TreemapLayout$State" "parents" "[I", Cond.methodLink RX1 57 yX1_sumSizes]
def wsX7_removeLeaf_r4 : List Cond := [Cond.instanceMethod yX1_sumSizes, Cond.selects RX1 yX1_sumSizes yX1_sumSizes, Cond.code yX1_sumSizes cX1_sumSizes 7 none, Cond.fieldLink RX1 9 "TreemapLayout$Layout" "sizes" "[I", Cond.fieldLink RX1 83 "TreemapLayout$State" "ownSizes" "[I", Cond.methodLink RX1 45 yX1_isLeaf, Cond.methodLink RX1 69 yX3_put, Cond.instanceMethod yX3_put, Cond.selects RX3 yX3_put yX3_put, Cond.initialized RX3, Cond.code yX3_put cX3_put 6 none, Cond.fieldLink RX3 9 "TreemapLayout$Rects" "lefts" "[I", Cond.fieldLink RX3 15 "TreemapLayout$Rects" "tops" "[I", Cond.fieldLink RX3 18 "TreemapLayout$Rects" "widths" "[I", Cond.fieldLink RX3 21 "TreemapLayout$Rects" "heights" "[I", Cond.methodLink RX1 76 yX1_placeChildren, Cond.instanceMethod yX1_placeChildren, Cond.selects RX1 yX1_placeChildren yX1_placeChildren, Cond.code yX1_placeChildren cX1_placeChildren 8 none, Cond.fieldLink RX1 86 "TreemapLayout$State" "padding" "I", Cond.fieldLink RX1 41 "TreemapLayout$Layout" "placer" "LTreemapLayout$Placer;", Cond.fieldLink RX1 89 "TreemapLayout$Rects" "lefts" "[I", Cond.fieldLink RX1 92 "TreemapLayout$Rects" "tops" "[I", Cond.fieldLink RX1 95 "TreemapLayout$Rects" "widths" "[I"]
def wsX7_removeLeaf_r5 : List Cond := [Cond.fieldLink RX1 98 "TreemapLayout$Rects" "heights" "[I", Cond.fieldLink RX1 113 "TreemapLayout$State" "mode" "I", Cond.methodLink RX1 101 yX2_open, Cond.instanceMethod yX2_open, Cond.selects RX2 yX2_open yX2_open, Cond.initialized RX2, Cond.code yX2_open cX2_open 5 none, Cond.fieldLink RX2 41 "TreemapLayout$Placer" "kidCount" "I", Cond.fieldLink RX2 21 "TreemapLayout$Placer" "free" "LTreemapLayout$Box;", Cond.methodLink RX2 45 yX0_set, Cond.instanceMethod yX0_set, Cond.selects RX0 yX0_set yX0_set, Cond.initialized RX0, Cond.code yX0_set cX0_set 5 none, Cond.fieldLink RX0 7 "TreemapLayout$Box" "left" "I", Cond.fieldLink RX0 13 "TreemapLayout$Box" "top" "I", Cond.fieldLink RX0 16 "TreemapLayout$Box" "wide" "I", Cond.fieldLink RX0 19 "TreemapLayout$Box" "high" "I", Cond.methodLink RX1 105 yX2_hasNoRoom, Cond.instanceMethod yX2_hasNoRoom, Cond.selects RX2 yX2_hasNoRoom yX2_hasNoRoom, Cond.code yX2_hasNoRoom cX2_hasNoRoom 1 (some .boolean), Cond.methodLink RX2 49 yX0_isEmpty, Cond.instanceMethod yX0_isEmpty]
def wsX7_removeLeaf_r6 : List Cond := [Cond.selects RX0 yX0_isEmpty yX0_isEmpty, Cond.code yX0_isEmpty cX0_isEmpty 1 (some .boolean), Cond.methodLink RX1 109 yX2_add, Cond.instanceMethod yX2_add, Cond.selects RX2 yX2_add yX2_add, Cond.code yX2_add cX2_add 3 none, Cond.fieldLink RX2 9 "TreemapLayout$Placer" "kids" "[I", Cond.fieldLink RX2 15 "TreemapLayout$Placer" "kidSizes" "[I", Cond.methodLink RX1 116 yX2_slice, Cond.instanceMethod yX2_slice, Cond.selects RX2 yX2_slice yX2_slice, Cond.code yX2_slice cX2_slice 3 none, Cond.fieldLink RX2 25 "TreemapLayout$Placer" "band" "LTreemapLayout$Box;", Cond.fieldLink RX2 53 "TreemapLayout$Box" "left" "I", Cond.fieldLink RX2 56 "TreemapLayout$Box" "top" "I", Cond.fieldLink RX2 59 "TreemapLayout$Box" "wide" "I", Cond.fieldLink RX2 62 "TreemapLayout$Box" "high" "I", Cond.methodLink RX2 65 yX2_fillBand, Cond.instanceMethod yX2_fillBand, Cond.selects RX2 yX2_fillBand yX2_fillBand, Cond.code yX2_fillBand cX2_fillBand 8 none, Cond.fieldLink RX2 31 "TreemapLayout$Placer" "kidShares" "LTreemapLayout$Shares;", Cond.fieldLink RX2 79 "TreemapLayout$Shares" "pixels" "[I", Cond.methodLink RX2 86 yX4_clear]
def wsX7_removeLeaf_r7 : List Cond := [Cond.instanceMethod yX4_clear, Cond.selects RX4 yX4_clear yX4_clear, Cond.initialized RX4, Cond.code yX4_clear cX4_clear 1 none, Cond.fieldLink RX4 21 "TreemapLayout$Shares" "count" "I", Cond.methodLink RX2 97 yX4_add, Cond.instanceMethod yX4_add, Cond.selects RX4 yX4_add yX4_add, Cond.code yX4_add cX4_add 2 none, Cond.fieldLink RX4 9 "TreemapLayout$Shares" "partSizes" "[I", Cond.methodLink RX2 72 yX4_apportion, Cond.instanceMethod yX4_apportion, Cond.selects RX4 yX4_apportion yX4_apportion, Cond.code yX4_apportion cX4_apportion 6 none, Cond.fieldLink RX4 18 "TreemapLayout$Shares" "pixels" "[I", Cond.fieldLink RX4 15 "TreemapLayout$Shares" "remainders" "[I", Cond.methodLink RX4 25 yX4_largestRemainder, Cond.instanceMethod yX4_largestRemainder, Cond.selects RX4 yX4_largestRemainder yX4_largestRemainder, Cond.code yX4_largestRemainder cX4_largestRemainder 3 (some .int), Cond.methodLink RX2 136 yX3_put, Cond.methodLink RX1 120 yX2_strip, Cond.instanceMethod yX2_strip, Cond.selects RX2 yX2_strip yX2_strip]
def wsX7_removeLeaf_r8 : List Cond := [Cond.code yX2_strip cX2_strip 5 none, Cond.fieldLink RX2 35 "TreemapLayout$Placer" "stripShares" "LTreemapLayout$Shares;", Cond.fieldLink RX2 76 "TreemapLayout$Shares" "count" "I", Cond.fieldLink RX2 38 "TreemapLayout$Placer" "stripEnds" "[I", Cond.methodLink RX2 69 yX2_splitIntoStrips, Cond.instanceMethod yX2_splitIntoStrips, Cond.selects RX2 yX2_splitIntoStrips yX2_splitIntoStrips, Cond.code yX2_splitIntoStrips cX2_splitIntoStrips 5 none, Cond.methodLink RX2 82 yX2_pixelsPerSize, Cond.instanceMethod yX2_pixelsPerSize, Cond.selects RX2 yX2_pixelsPerSize yX2_pixelsPerSize, Cond.code yX2_pixelsPerSize cX2_pixelsPerSize 3 (some .float), Cond.methodLink RX2 93 yX2_sumOfSizes, Cond.instanceMethod yX2_sumOfSizes, Cond.selects RX2 yX2_sumOfSizes yX2_sumOfSizes, Cond.code yX2_sumOfSizes cX2_sumOfSizes 5 (some .int), Cond.methodLink RX2 89 yX2_averageRatio, Cond.instanceMethod yX2_averageRatio, Cond.selects RX2 yX2_averageRatio yX2_averageRatio, Cond.code yX2_averageRatio cX2_averageRatio 7 (some .float), Cond.methodLink RX2 100 yX2_thicknessOf, Cond.static yX2_thicknessOf, Cond.code yX2_thicknessOf cX2_thicknessOf 3 (some .float), Cond.methodLink RX2 104 yX2_ratio]
def wsX7_removeLeaf_r9 : List Cond := [Cond.static yX2_ratio, Cond.code yX2_ratio cX2_ratio 6 (some .float), Cond.methodLink RX1 124 yX2_squarify, Cond.instanceMethod yX2_squarify, Cond.selects RX2 yX2_squarify yX2_squarify, Cond.code yX2_squarify cX2_squarify 6 none, Cond.methodLink RX2 108 yX2_sortByFallingSize, Cond.instanceMethod yX2_sortByFallingSize, Cond.selects RX2 yX2_sortByFallingSize yX2_sortByFallingSize, Cond.code yX2_sortByFallingSize cX2_sortByFallingSize 5 none, Cond.methodLink RX2 111 yX2_collapse, Cond.instanceMethod yX2_collapse, Cond.selects RX2 yX2_collapse yX2_collapse, Cond.code yX2_collapse cX2_collapse 4 none, Cond.methodLink RX2 115 yX2_endOfRow, Cond.instanceMethod yX2_endOfRow, Cond.selects RX2 yX2_endOfRow yX2_endOfRow, Cond.code yX2_endOfRow cX2_endOfRow 7 (some .int), Cond.methodLink RX2 123 Lib.Math.min.name, Cond.static Lib.Math.min.name, Cond.initialized "java/lang/Math", Cond.code Lib.Math.min.name Lib.Math.min.code 2 (some .int), Cond.methodLink RX2 128 yX2_worstRatio, Cond.instanceMethod yX2_worstRatio]
def wsX7_removeLeaf_r10 : List Cond := [Cond.selects RX2 yX2_worstRatio yX2_worstRatio, Cond.code yX2_worstRatio cX2_worstRatio 9 (some .float), Cond.methodLink RX2 119 yX2_cutBand, Cond.instanceMethod yX2_cutBand, Cond.selects RX2 yX2_cutBand yX2_cutBand, Cond.code yX2_cutBand cX2_cutBand 5 none, Cond.methodLink RX2 132 yX2_rowThickness, Cond.instanceMethod yX2_rowThickness, Cond.selects RX2 yX2_rowThickness yX2_rowThickness, Cond.code yX2_rowThickness cX2_rowThickness 5 (some .int)]
def wsX7_removeLeaf : List Cond := .code yX7_removeLeaf cX7_removeLeaf 2 (some .int) :: ((wsX7_removeLeaf_r1 ++ (wsX7_removeLeaf_r2 ++ (wsX7_removeLeaf_r3 ++ (wsX7_removeLeaf_r4 ++ (wsX7_removeLeaf_r5 ++ (wsX7_removeLeaf_r6 ++ (wsX7_removeLeaf_r7 ++ (wsX7_removeLeaf_r8 ++ (wsX7_removeLeaf_r9 ++ wsX7_removeLeaf_r10))))))))) ++ wsX70 ++ wsX50 ++ wsX10 ++ wsX60 ++ wsX30 ++ wsX20 ++ wsX00 ++ wsX40)
def wsX7_setParent_r1 : List Cond := [Cond.fieldLink RX7 10 "TreemapLayout" "state" "LTreemapLayout$State;", Cond.fieldLink RX7 26 "TreemapLayout" "saved" "LTreemapLayout$UndoStack;", Cond.fieldLink RX7 83 "TreemapLayout$State" "parents" "[I", Cond.fieldLink RX7 19 "TreemapLayout" "layout" "LTreemapLayout$Layout;", Cond.methodLink RX7 40 yX5_has, Cond.instanceMethod yX5_has, Cond.selects RX5 yX5_has yX5_has, Cond.initialized RX5, Cond.code yX5_has cX5_has 2 (some .boolean), Cond.fieldLink RX5 18 "TreemapLayout$State" "count" "I", Cond.methodLink RX7 47 yX7_failInvalid, Cond.instanceMethod yX7_failInvalid, Cond.selects RX7 yX7_failInvalid yX7_failInvalid, Cond.initialized RX7, Cond.code yX7_failInvalid cX7_failInvalid 1 (some .int), Cond.fieldLink RX7 158 "TreemapLayout" "invalidCalls" "I", Cond.methodLink RX7 79 yX5_isWithin, Cond.instanceMethod yX5_isWithin, Cond.selects RX5 yX5_isWithin yX5_isWithin, Cond.code yX5_isWithin cX5_isWithin 5 (some .boolean), Cond.fieldLink RX5 15 "TreemapLayout$State" "parents" "[I", Cond.methodLink RX5 40 yX5_has, Cond.methodLink RX7 72 yX7_failRejected, Cond.instanceMethod yX7_failRejected]
def wsX7_setParent_r2 : List Cond := [Cond.selects RX7 yX7_failRejected yX7_failRejected, Cond.code yX7_failRejected cX7_failRejected 1 (some .int), Cond.fieldLink RX7 161 "TreemapLayout" "rejectedCalls" "I", Cond.methodLink RX7 58 yX6_push, Cond.instanceMethod yX6_push, Cond.selects RX6 yX6_push yX6_push, Cond.initialized RX6, Cond.code yX6_push cX6_push 2 none, Cond.fieldLink RX6 11 "TreemapLayout$UndoStack" "slots" "[LTreemapLayout$State;", Cond.fieldLink RX6 18 "TreemapLayout$UndoStack" "next" "I", Cond.fieldLink RX6 26 "TreemapLayout$UndoStack" "count" "I", Cond.methodLink RX6 22 yX5_copyFrom, Cond.instanceMethod yX5_copyFrom, Cond.selects RX5 yX5_copyFrom yX5_copyFrom, Cond.code yX5_copyFrom cX5_copyFrom 2 none, Cond.fieldLink RX5 9 "TreemapLayout$State" "ownSizes" "[I", Cond.methodLink RX5 34 arraycopyName, Cond.native arraycopyName, Cond.static arraycopyName, Cond.initialized "java/lang/System", Cond.fieldLink RX5 22 "TreemapLayout$State" "canvasWidth" "I", Cond.fieldLink RX5 25 "TreemapLayout$State" "canvasHeight" "I", Cond.fieldLink RX5 28 "TreemapLayout$State" "padding" "I", Cond.fieldLink RX5 31 "TreemapLayout$State" "mode" "I"]
def wsX7_setParent_r3 : List Cond := [Cond.methodLink RX7 36 yX1_arrange, Cond.instanceMethod yX1_arrange, Cond.selects RX1 yX1_arrange yX1_arrange, Cond.initialized RX1, Cond.code yX1_arrange cX1_arrange 3 none, Cond.fieldLink RX1 25 "TreemapLayout$Layout" "rects" "LTreemapLayout$Rects;", Cond.fieldLink RX1 60 "TreemapLayout$State" "canvasWidth" "I", Cond.fieldLink RX1 66 "TreemapLayout$State" "canvasHeight" "I", Cond.fieldLink RX1 18 "TreemapLayout$Layout" "hidden" "[Z", Cond.fieldLink RX1 73 "TreemapLayout$State" "count" "I", Cond.fieldLink RX1 29 "TreemapLayout$Layout" "order" "[I", Cond.methodLink RX1 53 yX1_orderNodes, Cond.instanceMethod yX1_orderNodes, Cond.selects RX1 yX1_orderNodes yX1_orderNodes, Cond.code yX1_orderNodes cX1_orderNodes 6 none, Cond.fieldLink RX1 15 "TreemapLayout$Layout" "depths" "[I", Cond.fieldLink RX1 32 "TreemapLayout$Layout" "firstChildren" "[I", Cond.fieldLink RX1 80 "TreemapLayout$State" "parents" "[I", Cond.fieldLink RX1 35 "TreemapLayout$Layout" "childCounts" "[I", Cond.methodLink RX1 57 yX1_sumSizes, Cond.instanceMethod yX1_sumSizes, Cond.selects RX1 yX1_sumSizes yX1_sumSizes, Cond.code yX1_sumSizes cX1_sumSizes 7 none, Cond.fieldLink RX1 9 "TreemapLayout$Layout" "sizes" "[I"]
def wsX7_setParent_r4 : List Cond := [Cond.fieldLink RX1 83 "TreemapLayout$State" "ownSizes" "[I", Cond.methodLink RX1 45 yX1_isLeaf, Cond.instanceMethod yX1_isLeaf, Cond.selects RX1 yX1_isLeaf yX1_isLeaf, Cond.code yX1_isLeaf cX1_isLeaf 2 (some .boolean), Cond.methodLink RX1 69 yX3_put, Cond.instanceMethod yX3_put, Cond.selects RX3 yX3_put yX3_put, Cond.initialized RX3, Cond.code yX3_put cX3_put 6 none, Cond.fieldLink RX3 9 "TreemapLayout$Rects" "lefts" "[I", Cond.fieldLink RX3 15 "TreemapLayout$Rects" "tops" "[I", Cond.fieldLink RX3 18 "TreemapLayout$Rects" "widths" "[I", Cond.fieldLink RX3 21 "TreemapLayout$Rects" "heights" "[I", Cond.methodLink RX1 76 yX1_placeChildren, Cond.instanceMethod yX1_placeChildren, Cond.selects RX1 yX1_placeChildren yX1_placeChildren, Cond.code yX1_placeChildren cX1_placeChildren 8 none, Cond.fieldLink RX1 86 "TreemapLayout$State" "padding" "I", Cond.fieldLink RX1 41 "TreemapLayout$Layout" "placer" "LTreemapLayout$Placer;", Cond.fieldLink RX1 89 "TreemapLayout$Rects" "lefts" "[I", Cond.fieldLink RX1 92 "TreemapLayout$Rects" "tops" "[I", Cond.fieldLink RX1 95 "TreemapLayout$Rects" "widths" "[I", Cond.fieldLink RX1 98 "TreemapLayout$Rects" "heights" "[I"]
def wsX7_setParent_r5 : List Cond := [Cond.fieldLink RX1 113 "TreemapLayout$State" "mode" "I", Cond.methodLink RX1 101 yX2_open, Cond.instanceMethod yX2_open, Cond.selects RX2 yX2_open yX2_open, Cond.initialized RX2, Cond.code yX2_open cX2_open 5 none, Cond.fieldLink RX2 41 "TreemapLayout$Placer" "kidCount" "I", Cond.fieldLink RX2 21 "TreemapLayout$Placer" "free" "LTreemapLayout$Box;", Cond.methodLink RX2 45 yX0_set, Cond.instanceMethod yX0_set, Cond.selects RX0 yX0_set yX0_set, Cond.initialized RX0, Cond.code yX0_set cX0_set 5 none, Cond.fieldLink RX0 7 "TreemapLayout$Box" "left" "I", Cond.fieldLink RX0 13 "TreemapLayout$Box" "top" "I", Cond.fieldLink RX0 16 "TreemapLayout$Box" "wide" "I", Cond.fieldLink RX0 19 "TreemapLayout$Box" "high" "I", Cond.methodLink RX1 105 yX2_hasNoRoom, Cond.instanceMethod yX2_hasNoRoom, Cond.selects RX2 yX2_hasNoRoom yX2_hasNoRoom, Cond.code yX2_hasNoRoom cX2_hasNoRoom 1 (some .boolean), Cond.methodLink RX2 49 yX0_isEmpty, Cond.instanceMethod yX0_isEmpty, Cond.selects RX0 yX0_isEmpty yX0_isEmpty]
def wsX7_setParent_r6 : List Cond := [Cond.code yX0_isEmpty cX0_isEmpty 1 (some .boolean), Cond.methodLink RX1 109 yX2_add, Cond.instanceMethod yX2_add, Cond.selects RX2 yX2_add yX2_add, Cond.code yX2_add cX2_add 3 none, Cond.fieldLink RX2 9 "TreemapLayout$Placer" "kids" "[I", Cond.fieldLink RX2 15 "TreemapLayout$Placer" "kidSizes" "[I", Cond.methodLink RX1 116 yX2_slice, Cond.instanceMethod yX2_slice, Cond.selects RX2 yX2_slice yX2_slice, Cond.code yX2_slice cX2_slice 3 none, Cond.fieldLink RX2 25 "TreemapLayout$Placer" "band" "LTreemapLayout$Box;", Cond.fieldLink RX2 53 "TreemapLayout$Box" "left" "I", Cond.fieldLink RX2 56 "TreemapLayout$Box" "top" "I", Cond.fieldLink RX2 59 "TreemapLayout$Box" "wide" "I", Cond.fieldLink RX2 62 "TreemapLayout$Box" "high" "I", Cond.methodLink RX2 65 yX2_fillBand, Cond.instanceMethod yX2_fillBand, Cond.selects RX2 yX2_fillBand yX2_fillBand, Cond.code yX2_fillBand cX2_fillBand 8 none, Cond.fieldLink RX2 31 "TreemapLayout$Placer" "kidShares" "LTreemapLayout$Shares;", Cond.fieldLink RX2 79 "TreemapLayout$Shares" "pixels" "[I", Cond.methodLink RX2 86 yX4_clear, Cond.instanceMethod yX4_clear]
def wsX7_setParent_r7 : List Cond := [Cond.selects RX4 yX4_clear yX4_clear, Cond.initialized RX4, Cond.code yX4_clear cX4_clear 1 none, Cond.fieldLink RX4 21 "TreemapLayout$Shares" "count" "I", Cond.methodLink RX2 97 yX4_add, Cond.instanceMethod yX4_add, Cond.selects RX4 yX4_add yX4_add, Cond.code yX4_add cX4_add 2 none, Cond.fieldLink RX4 9 "TreemapLayout$Shares" "partSizes" "[I", Cond.methodLink RX2 72 yX4_apportion, Cond.instanceMethod yX4_apportion, Cond.selects RX4 yX4_apportion yX4_apportion, Cond.code yX4_apportion cX4_apportion 6 none, Cond.fieldLink RX4 18 "TreemapLayout$Shares" "pixels" "[I", Cond.fieldLink RX4 15 "TreemapLayout$Shares" "remainders" "[I", Cond.methodLink RX4 25 yX4_largestRemainder, Cond.instanceMethod yX4_largestRemainder, Cond.selects RX4 yX4_largestRemainder yX4_largestRemainder, Cond.code yX4_largestRemainder cX4_largestRemainder 3 (some .int), Cond.methodLink RX2 136 yX3_put, Cond.methodLink RX1 120 yX2_strip, Cond.instanceMethod yX2_strip, Cond.selects RX2 yX2_strip yX2_strip, Cond.code yX2_strip cX2_strip 5 none]
def wsX7_setParent_r8 : List Cond := [Cond.fieldLink RX2 35 "TreemapLayout$Placer" "stripShares" "LTreemapLayout$Shares;", Cond.fieldLink RX2 76 "TreemapLayout$Shares" "count" "I", Cond.fieldLink RX2 38 "TreemapLayout$Placer" "stripEnds" "[I", Cond.methodLink RX2 69 yX2_splitIntoStrips, Cond.instanceMethod yX2_splitIntoStrips, Cond.selects RX2 yX2_splitIntoStrips yX2_splitIntoStrips, Cond.code yX2_splitIntoStrips cX2_splitIntoStrips 5 none, Cond.methodLink RX2 82 yX2_pixelsPerSize, Cond.instanceMethod yX2_pixelsPerSize, Cond.selects RX2 yX2_pixelsPerSize yX2_pixelsPerSize, Cond.code yX2_pixelsPerSize cX2_pixelsPerSize 3 (some .float), Cond.methodLink RX2 93 yX2_sumOfSizes, Cond.instanceMethod yX2_sumOfSizes, Cond.selects RX2 yX2_sumOfSizes yX2_sumOfSizes, Cond.code yX2_sumOfSizes cX2_sumOfSizes 5 (some .int), Cond.methodLink RX2 89 yX2_averageRatio, Cond.instanceMethod yX2_averageRatio, Cond.selects RX2 yX2_averageRatio yX2_averageRatio, Cond.code yX2_averageRatio cX2_averageRatio 7 (some .float), Cond.methodLink RX2 100 yX2_thicknessOf, Cond.static yX2_thicknessOf, Cond.code yX2_thicknessOf cX2_thicknessOf 3 (some .float), Cond.methodLink RX2 104 yX2_ratio, Cond.static yX2_ratio]
def wsX7_setParent_r9 : List Cond := [Cond.code yX2_ratio cX2_ratio 6 (some .float), Cond.methodLink RX1 124 yX2_squarify, Cond.instanceMethod yX2_squarify, Cond.selects RX2 yX2_squarify yX2_squarify, Cond.code yX2_squarify cX2_squarify 6 none, Cond.methodLink RX2 108 yX2_sortByFallingSize, Cond.instanceMethod yX2_sortByFallingSize, Cond.selects RX2 yX2_sortByFallingSize yX2_sortByFallingSize, Cond.code yX2_sortByFallingSize cX2_sortByFallingSize 5 none, Cond.methodLink RX2 111 yX2_collapse, Cond.instanceMethod yX2_collapse, Cond.selects RX2 yX2_collapse yX2_collapse, Cond.code yX2_collapse cX2_collapse 4 none, Cond.methodLink RX2 115 yX2_endOfRow, Cond.instanceMethod yX2_endOfRow, Cond.selects RX2 yX2_endOfRow yX2_endOfRow, Cond.code yX2_endOfRow cX2_endOfRow 7 (some .int), Cond.methodLink RX2 123 Lib.Math.min.name, Cond.static Lib.Math.min.name, Cond.initialized "java/lang/Math", Cond.code Lib.Math.min.name Lib.Math.min.code 2 (some .int), Cond.methodLink RX2 128 yX2_worstRatio, Cond.instanceMethod yX2_worstRatio, Cond.selects RX2 yX2_worstRatio yX2_worstRatio]
def wsX7_setParent_r10 : List Cond := [Cond.code yX2_worstRatio cX2_worstRatio 9 (some .float), Cond.methodLink RX2 119 yX2_cutBand, Cond.instanceMethod yX2_cutBand, Cond.selects RX2 yX2_cutBand yX2_cutBand, Cond.code yX2_cutBand cX2_cutBand 5 none, Cond.methodLink RX2 132 yX2_rowThickness, Cond.instanceMethod yX2_rowThickness, Cond.selects RX2 yX2_rowThickness yX2_rowThickness, Cond.code yX2_rowThickness cX2_rowThickness 5 (some .int)]
def wsX7_setParent : List Cond := .code yX7_setParent cX7_setParent 4 (some .int) :: ((wsX7_setParent_r1 ++ (wsX7_setParent_r2 ++ (wsX7_setParent_r3 ++ (wsX7_setParent_r4 ++ (wsX7_setParent_r5 ++ (wsX7_setParent_r6 ++ (wsX7_setParent_r7 ++ (wsX7_setParent_r8 ++ (wsX7_setParent_r9 ++ wsX7_setParent_r10))))))))) ++ wsX70 ++ wsX50 ++ wsX60 ++ wsX10 ++ wsX30 ++ wsX20 ++ wsX00 ++ wsX40)
def wsX7_isSide : List Cond := .code yX7_isSide cX7_isSide 1 (some .boolean) :: ([])
def wsX7_setCanvas_r1 : List Cond := [Cond.fieldLink RX7 26 "TreemapLayout" "saved" "LTreemapLayout$UndoStack;", Cond.fieldLink RX7 10 "TreemapLayout" "state" "LTreemapLayout$State;", Cond.fieldLink RX7 89 "TreemapLayout$State" "canvasWidth" "I", Cond.fieldLink RX7 92 "TreemapLayout$State" "canvasHeight" "I", Cond.fieldLink RX7 19 "TreemapLayout" "layout" "LTreemapLayout$Layout;", Cond.methodLink RX7 86 yX7_isSide, Cond.static yX7_isSide, Cond.initialized RX7, Cond.code yX7_isSide cX7_isSide 1 (some .boolean), Cond.methodLink RX7 47 yX7_failInvalid, Cond.instanceMethod yX7_failInvalid, Cond.selects RX7 yX7_failInvalid yX7_failInvalid, Cond.code yX7_failInvalid cX7_failInvalid 1 (some .int), Cond.fieldLink RX7 158 "TreemapLayout" "invalidCalls" "I", Cond.methodLink RX7 58 yX6_push, Cond.instanceMethod yX6_push, Cond.selects RX6 yX6_push yX6_push, Cond.initialized RX6, Cond.code yX6_push cX6_push 2 none, Cond.fieldLink RX6 11 "TreemapLayout$UndoStack" "slots" "[LTreemapLayout$State;", Cond.fieldLink RX6 18 "TreemapLayout$UndoStack" "next" "I", Cond.fieldLink RX6 26 "TreemapLayout$UndoStack" "count" "I", Cond.methodLink RX6 22 yX5_copyFrom, Cond.instanceMethod yX5_copyFrom]
def wsX7_setCanvas_r2 : List Cond := [Cond.selects RX5 yX5_copyFrom yX5_copyFrom, Cond.initialized RX5, Cond.code yX5_copyFrom cX5_copyFrom 2 none, Cond.fieldLink RX5 9 "TreemapLayout$State" "ownSizes" "[I", Cond.methodLink RX5 34 arraycopyName, Cond.native arraycopyName, Cond.static arraycopyName, Cond.initialized "java/lang/System", Cond.fieldLink RX5 15 "TreemapLayout$State" "parents" "[I", Cond.fieldLink RX5 18 "TreemapLayout$State" "count" "I", Cond.fieldLink RX5 22 "TreemapLayout$State" "canvasWidth" "I", Cond.fieldLink RX5 25 "TreemapLayout$State" "canvasHeight" "I", Cond.fieldLink RX5 28 "TreemapLayout$State" "padding" "I", Cond.fieldLink RX5 31 "TreemapLayout$State" "mode" "I", Cond.methodLink RX7 36 yX1_arrange, Cond.instanceMethod yX1_arrange, Cond.selects RX1 yX1_arrange yX1_arrange, Cond.initialized RX1, Cond.code yX1_arrange cX1_arrange 3 none, Cond.fieldLink RX1 25 "TreemapLayout$Layout" "rects" "LTreemapLayout$Rects;", Cond.fieldLink RX1 60 "TreemapLayout$State" "canvasWidth" "I", Cond.fieldLink RX1 66 "TreemapLayout$State" "canvasHeight" "I", Cond.fieldLink RX1 18 "TreemapLayout$Layout" "hidden" "[Z", Cond.fieldLink RX1 73 "TreemapLayout$State" "count" "I"]
def wsX7_setCanvas_r3 : List Cond := [Cond.fieldLink RX1 29 "TreemapLayout$Layout" "order" "[I", Cond.methodLink RX1 53 yX1_orderNodes, Cond.instanceMethod yX1_orderNodes, Cond.selects RX1 yX1_orderNodes yX1_orderNodes, Cond.code yX1_orderNodes cX1_orderNodes 6 none, Cond.fieldLink RX1 15 "TreemapLayout$Layout" "depths" "[I", Cond.fieldLink RX1 32 "TreemapLayout$Layout" "firstChildren" "[I", Cond.fieldLink RX1 80 "TreemapLayout$State" "parents" "[I", Cond.fieldLink RX1 35 "TreemapLayout$Layout" "childCounts" "[I", Cond.methodLink RX1 57 yX1_sumSizes, Cond.instanceMethod yX1_sumSizes, Cond.selects RX1 yX1_sumSizes yX1_sumSizes, Cond.code yX1_sumSizes cX1_sumSizes 7 none, Cond.fieldLink RX1 9 "TreemapLayout$Layout" "sizes" "[I", Cond.fieldLink RX1 83 "TreemapLayout$State" "ownSizes" "[I", Cond.methodLink RX1 45 yX1_isLeaf, Cond.instanceMethod yX1_isLeaf, Cond.selects RX1 yX1_isLeaf yX1_isLeaf, Cond.code yX1_isLeaf cX1_isLeaf 2 (some .boolean), Cond.methodLink RX1 69 yX3_put, Cond.instanceMethod yX3_put, Cond.selects RX3 yX3_put yX3_put, Cond.initialized RX3, Cond.code yX3_put cX3_put 6 none]
def wsX7_setCanvas_r4 : List Cond := [Cond.fieldLink RX3 9 "TreemapLayout$Rects" "lefts" "[I", Cond.fieldLink RX3 15 "TreemapLayout$Rects" "tops" "[I", Cond.fieldLink RX3 18 "TreemapLayout$Rects" "widths" "[I", Cond.fieldLink RX3 21 "TreemapLayout$Rects" "heights" "[I", Cond.methodLink RX1 76 yX1_placeChildren, Cond.instanceMethod yX1_placeChildren, Cond.selects RX1 yX1_placeChildren yX1_placeChildren, Cond.code yX1_placeChildren cX1_placeChildren 8 none, Cond.fieldLink RX1 86 "TreemapLayout$State" "padding" "I", Cond.fieldLink RX1 41 "TreemapLayout$Layout" "placer" "LTreemapLayout$Placer;", Cond.fieldLink RX1 89 "TreemapLayout$Rects" "lefts" "[I", Cond.fieldLink RX1 92 "TreemapLayout$Rects" "tops" "[I", Cond.fieldLink RX1 95 "TreemapLayout$Rects" "widths" "[I", Cond.fieldLink RX1 98 "TreemapLayout$Rects" "heights" "[I", Cond.fieldLink RX1 113 "TreemapLayout$State" "mode" "I", Cond.methodLink RX1 101 yX2_open, Cond.instanceMethod yX2_open, Cond.selects RX2 yX2_open yX2_open, Cond.initialized RX2, Cond.code yX2_open cX2_open 5 none, Cond.fieldLink RX2 41 "TreemapLayout$Placer" "kidCount" "I", Cond.fieldLink RX2 21 "TreemapLayout$Placer" "free" "LTreemapLayout$Box;", Cond.methodLink RX2 45 yX0_set, Cond.instanceMethod yX0_set]
def wsX7_setCanvas_r5 : List Cond := [Cond.selects RX0 yX0_set yX0_set, Cond.initialized RX0, Cond.code yX0_set cX0_set 5 none, Cond.fieldLink RX0 7 "TreemapLayout$Box" "left" "I", Cond.fieldLink RX0 13 "TreemapLayout$Box" "top" "I", Cond.fieldLink RX0 16 "TreemapLayout$Box" "wide" "I", Cond.fieldLink RX0 19 "TreemapLayout$Box" "high" "I", Cond.methodLink RX1 105 yX2_hasNoRoom, Cond.instanceMethod yX2_hasNoRoom, Cond.selects RX2 yX2_hasNoRoom yX2_hasNoRoom, Cond.code yX2_hasNoRoom cX2_hasNoRoom 1 (some .boolean), Cond.methodLink RX2 49 yX0_isEmpty, Cond.instanceMethod yX0_isEmpty, Cond.selects RX0 yX0_isEmpty yX0_isEmpty, Cond.code yX0_isEmpty cX0_isEmpty 1 (some .boolean), Cond.methodLink RX1 109 yX2_add, Cond.instanceMethod yX2_add, Cond.selects RX2 yX2_add yX2_add, Cond.code yX2_add cX2_add 3 none, Cond.fieldLink RX2 9 "TreemapLayout$Placer" "kids" "[I", Cond.fieldLink RX2 15 "TreemapLayout$Placer" "kidSizes" "[I", Cond.methodLink RX1 116 yX2_slice, Cond.instanceMethod yX2_slice, Cond.selects RX2 yX2_slice yX2_slice]
def wsX7_setCanvas_r6 : List Cond := [Cond.code yX2_slice cX2_slice 3 none, Cond.fieldLink RX2 25 "TreemapLayout$Placer" "band" "LTreemapLayout$Box;", Cond.fieldLink RX2 53 "TreemapLayout$Box" "left" "I", Cond.fieldLink RX2 56 "TreemapLayout$Box" "top" "I", Cond.fieldLink RX2 59 "TreemapLayout$Box" "wide" "I", Cond.fieldLink RX2 62 "TreemapLayout$Box" "high" "I", Cond.methodLink RX2 65 yX2_fillBand, Cond.instanceMethod yX2_fillBand, Cond.selects RX2 yX2_fillBand yX2_fillBand, Cond.code yX2_fillBand cX2_fillBand 8 none, Cond.fieldLink RX2 31 "TreemapLayout$Placer" "kidShares" "LTreemapLayout$Shares;", Cond.fieldLink RX2 79 "TreemapLayout$Shares" "pixels" "[I", Cond.methodLink RX2 86 yX4_clear, Cond.instanceMethod yX4_clear, Cond.selects RX4 yX4_clear yX4_clear, Cond.initialized RX4, Cond.code yX4_clear cX4_clear 1 none, Cond.fieldLink RX4 21 "TreemapLayout$Shares" "count" "I", Cond.methodLink RX2 97 yX4_add, Cond.instanceMethod yX4_add, Cond.selects RX4 yX4_add yX4_add, Cond.code yX4_add cX4_add 2 none, Cond.fieldLink RX4 9 "TreemapLayout$Shares" "partSizes" "[I", Cond.methodLink RX2 72 yX4_apportion]
def wsX7_setCanvas_r7 : List Cond := [Cond.instanceMethod yX4_apportion, Cond.selects RX4 yX4_apportion yX4_apportion, Cond.code yX4_apportion cX4_apportion 6 none, Cond.fieldLink RX4 18 "TreemapLayout$Shares" "pixels" "[I", Cond.fieldLink RX4 15 "TreemapLayout$Shares" "remainders" "[I", Cond.methodLink RX4 25 yX4_largestRemainder, Cond.instanceMethod yX4_largestRemainder, Cond.selects RX4 yX4_largestRemainder yX4_largestRemainder, Cond.code yX4_largestRemainder cX4_largestRemainder 3 (some .int), Cond.methodLink RX2 136 yX3_put, Cond.methodLink RX1 120 yX2_strip, Cond.instanceMethod yX2_strip, Cond.selects RX2 yX2_strip yX2_strip, Cond.code yX2_strip cX2_strip 5 none, Cond.fieldLink RX2 35 "TreemapLayout$Placer" "stripShares" "LTreemapLayout$Shares;", Cond.fieldLink RX2 76 "TreemapLayout$Shares" "count" "I", Cond.fieldLink RX2 38 "TreemapLayout$Placer" "stripEnds" "[I", Cond.methodLink RX2 69 yX2_splitIntoStrips, Cond.instanceMethod yX2_splitIntoStrips, Cond.selects RX2 yX2_splitIntoStrips yX2_splitIntoStrips, Cond.code yX2_splitIntoStrips cX2_splitIntoStrips 5 none, Cond.methodLink RX2 82 yX2_pixelsPerSize, Cond.instanceMethod yX2_pixelsPerSize, Cond.selects RX2 yX2_pixelsPerSize yX2_pixelsPerSize]
def wsX7_setCanvas_r8 : List Cond := [Cond.code yX2_pixelsPerSize cX2_pixelsPerSize 3 (some .float), Cond.methodLink RX2 93 yX2_sumOfSizes, Cond.instanceMethod yX2_sumOfSizes, Cond.selects RX2 yX2_sumOfSizes yX2_sumOfSizes, Cond.code yX2_sumOfSizes cX2_sumOfSizes 5 (some .int), Cond.methodLink RX2 89 yX2_averageRatio, Cond.instanceMethod yX2_averageRatio, Cond.selects RX2 yX2_averageRatio yX2_averageRatio, Cond.code yX2_averageRatio cX2_averageRatio 7 (some .float), Cond.methodLink RX2 100 yX2_thicknessOf, Cond.static yX2_thicknessOf, Cond.code yX2_thicknessOf cX2_thicknessOf 3 (some .float), Cond.methodLink RX2 104 yX2_ratio, Cond.static yX2_ratio, Cond.code yX2_ratio cX2_ratio 6 (some .float), Cond.methodLink RX1 124 yX2_squarify, Cond.instanceMethod yX2_squarify, Cond.selects RX2 yX2_squarify yX2_squarify, Cond.code yX2_squarify cX2_squarify 6 none, Cond.methodLink RX2 108 yX2_sortByFallingSize, Cond.instanceMethod yX2_sortByFallingSize, Cond.selects RX2 yX2_sortByFallingSize yX2_sortByFallingSize, Cond.code yX2_sortByFallingSize cX2_sortByFallingSize 5 none, Cond.methodLink RX2 111 yX2_collapse]
def wsX7_setCanvas_r9 : List Cond := [Cond.instanceMethod yX2_collapse, Cond.selects RX2 yX2_collapse yX2_collapse, Cond.code yX2_collapse cX2_collapse 4 none, Cond.methodLink RX2 115 yX2_endOfRow, Cond.instanceMethod yX2_endOfRow, Cond.selects RX2 yX2_endOfRow yX2_endOfRow, Cond.code yX2_endOfRow cX2_endOfRow 7 (some .int), Cond.methodLink RX2 123 Lib.Math.min.name, Cond.static Lib.Math.min.name, Cond.initialized "java/lang/Math", Cond.code Lib.Math.min.name Lib.Math.min.code 2 (some .int), Cond.methodLink RX2 128 yX2_worstRatio, Cond.instanceMethod yX2_worstRatio, Cond.selects RX2 yX2_worstRatio yX2_worstRatio, Cond.code yX2_worstRatio cX2_worstRatio 9 (some .float), Cond.methodLink RX2 119 yX2_cutBand, Cond.instanceMethod yX2_cutBand, Cond.selects RX2 yX2_cutBand yX2_cutBand, Cond.code yX2_cutBand cX2_cutBand 5 none, Cond.methodLink RX2 132 yX2_rowThickness, Cond.instanceMethod yX2_rowThickness, Cond.selects RX2 yX2_rowThickness yX2_rowThickness, Cond.code yX2_rowThickness cX2_rowThickness 5 (some .int)]
def wsX7_setCanvas : List Cond := .code yX7_setCanvas cX7_setCanvas 4 (some .int) :: ((wsX7_setCanvas_r1 ++ (wsX7_setCanvas_r2 ++ (wsX7_setCanvas_r3 ++ (wsX7_setCanvas_r4 ++ (wsX7_setCanvas_r5 ++ (wsX7_setCanvas_r6 ++ (wsX7_setCanvas_r7 ++ (wsX7_setCanvas_r8 ++ wsX7_setCanvas_r9)))))))) ++ wsX70 ++ wsX50 ++ wsX60 ++ wsX10 ++ wsX30 ++ wsX20 ++ wsX00 ++ wsX40)
def wsX7_setPadding_r1 : List Cond := [Cond.fieldLink RX7 26 "TreemapLayout" "saved" "LTreemapLayout$UndoStack;", Cond.fieldLink RX7 10 "TreemapLayout" "state" "LTreemapLayout$State;", Cond.fieldLink RX7 95 "TreemapLayout$State" "padding" "I", Cond.fieldLink RX7 19 "TreemapLayout" "layout" "LTreemapLayout$Layout;", Cond.methodLink RX7 47 yX7_failInvalid, Cond.instanceMethod yX7_failInvalid, Cond.selects RX7 yX7_failInvalid yX7_failInvalid, Cond.initialized RX7, Cond.code yX7_failInvalid cX7_failInvalid 1 (some .int), Cond.fieldLink RX7 158 "TreemapLayout" "invalidCalls" "I", Cond.methodLink RX7 58 yX6_push, Cond.instanceMethod yX6_push, Cond.selects RX6 yX6_push yX6_push, Cond.initialized RX6, Cond.code yX6_push cX6_push 2 none, Cond.fieldLink RX6 11 "TreemapLayout$UndoStack" "slots" "[LTreemapLayout$State;", Cond.fieldLink RX6 18 "TreemapLayout$UndoStack" "next" "I", Cond.fieldLink RX6 26 "TreemapLayout$UndoStack" "count" "I", Cond.methodLink RX6 22 yX5_copyFrom, Cond.instanceMethod yX5_copyFrom, Cond.selects RX5 yX5_copyFrom yX5_copyFrom, Cond.initialized RX5, Cond.code yX5_copyFrom cX5_copyFrom 2 none, Cond.fieldLink RX5 9 "TreemapLayout$State" "ownSizes" "[I"]
def wsX7_setPadding_r2 : List Cond := [Cond.methodLink RX5 34 arraycopyName, Cond.native arraycopyName, Cond.static arraycopyName, Cond.initialized "java/lang/System", Cond.fieldLink RX5 15 "TreemapLayout$State" "parents" "[I", Cond.fieldLink RX5 18 "TreemapLayout$State" "count" "I", Cond.fieldLink RX5 22 "TreemapLayout$State" "canvasWidth" "I", Cond.fieldLink RX5 25 "TreemapLayout$State" "canvasHeight" "I", Cond.fieldLink RX5 28 "TreemapLayout$State" "padding" "I", Cond.fieldLink RX5 31 "TreemapLayout$State" "mode" "I", Cond.methodLink RX7 36 yX1_arrange, Cond.instanceMethod yX1_arrange, Cond.selects RX1 yX1_arrange yX1_arrange, Cond.initialized RX1, Cond.code yX1_arrange cX1_arrange 3 none, Cond.fieldLink RX1 25 "TreemapLayout$Layout" "rects" "LTreemapLayout$Rects;", Cond.fieldLink RX1 60 "TreemapLayout$State" "canvasWidth" "I", Cond.fieldLink RX1 66 "TreemapLayout$State" "canvasHeight" "I", Cond.fieldLink RX1 18 "TreemapLayout$Layout" "hidden" "[Z", Cond.fieldLink RX1 73 "TreemapLayout$State" "count" "I", Cond.fieldLink RX1 29 "TreemapLayout$Layout" "order" "[I", Cond.methodLink RX1 53 yX1_orderNodes, Cond.instanceMethod yX1_orderNodes, Cond.selects RX1 yX1_orderNodes yX1_orderNodes]
def wsX7_setPadding_r3 : List Cond := [Cond.code yX1_orderNodes cX1_orderNodes 6 none, Cond.fieldLink RX1 15 "TreemapLayout$Layout" "depths" "[I", Cond.fieldLink RX1 32 "TreemapLayout$Layout" "firstChildren" "[I", Cond.fieldLink RX1 80 "TreemapLayout$State" "parents" "[I", Cond.fieldLink RX1 35 "TreemapLayout$Layout" "childCounts" "[I", Cond.methodLink RX1 57 yX1_sumSizes, Cond.instanceMethod yX1_sumSizes, Cond.selects RX1 yX1_sumSizes yX1_sumSizes, Cond.code yX1_sumSizes cX1_sumSizes 7 none, Cond.fieldLink RX1 9 "TreemapLayout$Layout" "sizes" "[I", Cond.fieldLink RX1 83 "TreemapLayout$State" "ownSizes" "[I", Cond.methodLink RX1 45 yX1_isLeaf, Cond.instanceMethod yX1_isLeaf, Cond.selects RX1 yX1_isLeaf yX1_isLeaf, Cond.code yX1_isLeaf cX1_isLeaf 2 (some .boolean), Cond.methodLink RX1 69 yX3_put, Cond.instanceMethod yX3_put, Cond.selects RX3 yX3_put yX3_put, Cond.initialized RX3, Cond.code yX3_put cX3_put 6 none, Cond.fieldLink RX3 9 "TreemapLayout$Rects" "lefts" "[I", Cond.fieldLink RX3 15 "TreemapLayout$Rects" "tops" "[I", Cond.fieldLink RX3 18 "TreemapLayout$Rects" "widths" "[I", Cond.fieldLink RX3 21 "TreemapLayout$Rects" "heights" "[I"]
def wsX7_setPadding_r4 : List Cond := [Cond.methodLink RX1 76 yX1_placeChildren, Cond.instanceMethod yX1_placeChildren, Cond.selects RX1 yX1_placeChildren yX1_placeChildren, Cond.code yX1_placeChildren cX1_placeChildren 8 none, Cond.fieldLink RX1 86 "TreemapLayout$State" "padding" "I", Cond.fieldLink RX1 41 "TreemapLayout$Layout" "placer" "LTreemapLayout$Placer;", Cond.fieldLink RX1 89 "TreemapLayout$Rects" "lefts" "[I", Cond.fieldLink RX1 92 "TreemapLayout$Rects" "tops" "[I", Cond.fieldLink RX1 95 "TreemapLayout$Rects" "widths" "[I", Cond.fieldLink RX1 98 "TreemapLayout$Rects" "heights" "[I", Cond.fieldLink RX1 113 "TreemapLayout$State" "mode" "I", Cond.methodLink RX1 101 yX2_open, Cond.instanceMethod yX2_open, Cond.selects RX2 yX2_open yX2_open, Cond.initialized RX2, Cond.code yX2_open cX2_open 5 none, Cond.fieldLink RX2 41 "TreemapLayout$Placer" "kidCount" "I", Cond.fieldLink RX2 21 "TreemapLayout$Placer" "free" "LTreemapLayout$Box;", Cond.methodLink RX2 45 yX0_set, Cond.instanceMethod yX0_set, Cond.selects RX0 yX0_set yX0_set, Cond.initialized RX0, Cond.code yX0_set cX0_set 5 none, Cond.fieldLink RX0 7 "TreemapLayout$Box" "left" "I"]
def wsX7_setPadding_r5 : List Cond := [Cond.fieldLink RX0 13 "TreemapLayout$Box" "top" "I", Cond.fieldLink RX0 16 "TreemapLayout$Box" "wide" "I", Cond.fieldLink RX0 19 "TreemapLayout$Box" "high" "I", Cond.methodLink RX1 105 yX2_hasNoRoom, Cond.instanceMethod yX2_hasNoRoom, Cond.selects RX2 yX2_hasNoRoom yX2_hasNoRoom, Cond.code yX2_hasNoRoom cX2_hasNoRoom 1 (some .boolean), Cond.methodLink RX2 49 yX0_isEmpty, Cond.instanceMethod yX0_isEmpty, Cond.selects RX0 yX0_isEmpty yX0_isEmpty, Cond.code yX0_isEmpty cX0_isEmpty 1 (some .boolean), Cond.methodLink RX1 109 yX2_add, Cond.instanceMethod yX2_add, Cond.selects RX2 yX2_add yX2_add, Cond.code yX2_add cX2_add 3 none, Cond.fieldLink RX2 9 "TreemapLayout$Placer" "kids" "[I", Cond.fieldLink RX2 15 "TreemapLayout$Placer" "kidSizes" "[I", Cond.methodLink RX1 116 yX2_slice, Cond.instanceMethod yX2_slice, Cond.selects RX2 yX2_slice yX2_slice, Cond.code yX2_slice cX2_slice 3 none, Cond.fieldLink RX2 25 "TreemapLayout$Placer" "band" "LTreemapLayout$Box;", Cond.fieldLink RX2 53 "TreemapLayout$Box" "left" "I", Cond.fieldLink RX2 56 "TreemapLayout$Box" "top" "I"]
def wsX7_setPadding_r6 : List Cond := [Cond.fieldLink RX2 59 "TreemapLayout$Box" "wide" "I", Cond.fieldLink RX2 62 "TreemapLayout$Box" "high" "I", Cond.methodLink RX2 65 yX2_fillBand, Cond.instanceMethod yX2_fillBand, Cond.selects RX2 yX2_fillBand yX2_fillBand, Cond.code yX2_fillBand cX2_fillBand 8 none, Cond.fieldLink RX2 31 "TreemapLayout$Placer" "kidShares" "LTreemapLayout$Shares;", Cond.fieldLink RX2 79 "TreemapLayout$Shares" "pixels" "[I", Cond.methodLink RX2 86 yX4_clear, Cond.instanceMethod yX4_clear, Cond.selects RX4 yX4_clear yX4_clear, Cond.initialized RX4, Cond.code yX4_clear cX4_clear 1 none, Cond.fieldLink RX4 21 "TreemapLayout$Shares" "count" "I", Cond.methodLink RX2 97 yX4_add, Cond.instanceMethod yX4_add, Cond.selects RX4 yX4_add yX4_add, Cond.code yX4_add cX4_add 2 none, Cond.fieldLink RX4 9 "TreemapLayout$Shares" "partSizes" "[I", Cond.methodLink RX2 72 yX4_apportion, Cond.instanceMethod yX4_apportion, Cond.selects RX4 yX4_apportion yX4_apportion, Cond.code yX4_apportion cX4_apportion 6 none, Cond.fieldLink RX4 18 "TreemapLayout$Shares" "pixels" "[I"]
def wsX7_setPadding_r7 : List Cond := [Cond.fieldLink RX4 15 "TreemapLayout$Shares" "remainders" "[I", Cond.methodLink RX4 25 yX4_largestRemainder, Cond.instanceMethod yX4_largestRemainder, Cond.selects RX4 yX4_largestRemainder yX4_largestRemainder, Cond.code yX4_largestRemainder cX4_largestRemainder 3 (some .int), Cond.methodLink RX2 136 yX3_put, Cond.methodLink RX1 120 yX2_strip, Cond.instanceMethod yX2_strip, Cond.selects RX2 yX2_strip yX2_strip, Cond.code yX2_strip cX2_strip 5 none, Cond.fieldLink RX2 35 "TreemapLayout$Placer" "stripShares" "LTreemapLayout$Shares;", Cond.fieldLink RX2 76 "TreemapLayout$Shares" "count" "I", Cond.fieldLink RX2 38 "TreemapLayout$Placer" "stripEnds" "[I", Cond.methodLink RX2 69 yX2_splitIntoStrips, Cond.instanceMethod yX2_splitIntoStrips, Cond.selects RX2 yX2_splitIntoStrips yX2_splitIntoStrips, Cond.code yX2_splitIntoStrips cX2_splitIntoStrips 5 none, Cond.methodLink RX2 82 yX2_pixelsPerSize, Cond.instanceMethod yX2_pixelsPerSize, Cond.selects RX2 yX2_pixelsPerSize yX2_pixelsPerSize, Cond.code yX2_pixelsPerSize cX2_pixelsPerSize 3 (some .float), Cond.methodLink RX2 93 yX2_sumOfSizes, Cond.instanceMethod yX2_sumOfSizes, Cond.selects RX2 yX2_sumOfSizes yX2_sumOfSizes]
def wsX7_setPadding_r8 : List Cond := [Cond.code yX2_sumOfSizes cX2_sumOfSizes 5 (some .int), Cond.methodLink RX2 89 yX2_averageRatio, Cond.instanceMethod yX2_averageRatio, Cond.selects RX2 yX2_averageRatio yX2_averageRatio, Cond.code yX2_averageRatio cX2_averageRatio 7 (some .float), Cond.methodLink RX2 100 yX2_thicknessOf, Cond.static yX2_thicknessOf, Cond.code yX2_thicknessOf cX2_thicknessOf 3 (some .float), Cond.methodLink RX2 104 yX2_ratio, Cond.static yX2_ratio, Cond.code yX2_ratio cX2_ratio 6 (some .float), Cond.methodLink RX1 124 yX2_squarify, Cond.instanceMethod yX2_squarify, Cond.selects RX2 yX2_squarify yX2_squarify, Cond.code yX2_squarify cX2_squarify 6 none, Cond.methodLink RX2 108 yX2_sortByFallingSize, Cond.instanceMethod yX2_sortByFallingSize, Cond.selects RX2 yX2_sortByFallingSize yX2_sortByFallingSize, Cond.code yX2_sortByFallingSize cX2_sortByFallingSize 5 none, Cond.methodLink RX2 111 yX2_collapse, Cond.instanceMethod yX2_collapse, Cond.selects RX2 yX2_collapse yX2_collapse, Cond.code yX2_collapse cX2_collapse 4 none, Cond.methodLink RX2 115 yX2_endOfRow]
def wsX7_setPadding_r9 : List Cond := [Cond.instanceMethod yX2_endOfRow, Cond.selects RX2 yX2_endOfRow yX2_endOfRow, Cond.code yX2_endOfRow cX2_endOfRow 7 (some .int), Cond.methodLink RX2 123 Lib.Math.min.name, Cond.static Lib.Math.min.name, Cond.initialized "java/lang/Math", Cond.code Lib.Math.min.name Lib.Math.min.code 2 (some .int), Cond.methodLink RX2 128 yX2_worstRatio, Cond.instanceMethod yX2_worstRatio, Cond.selects RX2 yX2_worstRatio yX2_worstRatio, Cond.code yX2_worstRatio cX2_worstRatio 9 (some .float), Cond.methodLink RX2 119 yX2_cutBand, Cond.instanceMethod yX2_cutBand, Cond.selects RX2 yX2_cutBand yX2_cutBand, Cond.code yX2_cutBand cX2_cutBand 5 none, Cond.methodLink RX2 132 yX2_rowThickness, Cond.instanceMethod yX2_rowThickness, Cond.selects RX2 yX2_rowThickness yX2_rowThickness, Cond.code yX2_rowThickness cX2_rowThickness 5 (some .int)]
def wsX7_setPadding : List Cond := .code yX7_setPadding cX7_setPadding 3 (some .int) :: ((wsX7_setPadding_r1 ++ (wsX7_setPadding_r2 ++ (wsX7_setPadding_r3 ++ (wsX7_setPadding_r4 ++ (wsX7_setPadding_r5 ++ (wsX7_setPadding_r6 ++ (wsX7_setPadding_r7 ++ (wsX7_setPadding_r8 ++ wsX7_setPadding_r9)))))))) ++ wsX70 ++ wsX50 ++ wsX60 ++ wsX10 ++ wsX30 ++ wsX20 ++ wsX00 ++ wsX40)
def wsX7_setMode_r1 : List Cond := [Cond.fieldLink RX7 26 "TreemapLayout" "saved" "LTreemapLayout$UndoStack;", Cond.fieldLink RX7 10 "TreemapLayout" "state" "LTreemapLayout$State;", Cond.fieldLink RX7 98 "TreemapLayout$State" "mode" "I", Cond.fieldLink RX7 19 "TreemapLayout" "layout" "LTreemapLayout$Layout;", Cond.methodLink RX7 47 yX7_failInvalid, Cond.instanceMethod yX7_failInvalid, Cond.selects RX7 yX7_failInvalid yX7_failInvalid, Cond.initialized RX7, Cond.code yX7_failInvalid cX7_failInvalid 1 (some .int), Cond.fieldLink RX7 158 "TreemapLayout" "invalidCalls" "I", Cond.methodLink RX7 58 yX6_push, Cond.instanceMethod yX6_push, Cond.selects RX6 yX6_push yX6_push, Cond.initialized RX6, Cond.code yX6_push cX6_push 2 none, Cond.fieldLink RX6 11 "TreemapLayout$UndoStack" "slots" "[LTreemapLayout$State;", Cond.fieldLink RX6 18 "TreemapLayout$UndoStack" "next" "I", Cond.fieldLink RX6 26 "TreemapLayout$UndoStack" "count" "I", Cond.methodLink RX6 22 yX5_copyFrom, Cond.instanceMethod yX5_copyFrom, Cond.selects RX5 yX5_copyFrom yX5_copyFrom, Cond.initialized RX5, Cond.code yX5_copyFrom cX5_copyFrom 2 none, Cond.fieldLink RX5 9 "TreemapLayout$State" "ownSizes" "[I"]
def wsX7_setMode_r2 : List Cond := [Cond.methodLink RX5 34 arraycopyName, Cond.native arraycopyName, Cond.static arraycopyName, Cond.initialized "java/lang/System", Cond.fieldLink RX5 15 "TreemapLayout$State" "parents" "[I", Cond.fieldLink RX5 18 "TreemapLayout$State" "count" "I", Cond.fieldLink RX5 22 "TreemapLayout$State" "canvasWidth" "I", Cond.fieldLink RX5 25 "TreemapLayout$State" "canvasHeight" "I", Cond.fieldLink RX5 28 "TreemapLayout$State" "padding" "I", Cond.fieldLink RX5 31 "TreemapLayout$State" "mode" "I", Cond.methodLink RX7 36 yX1_arrange, Cond.instanceMethod yX1_arrange, Cond.selects RX1 yX1_arrange yX1_arrange, Cond.initialized RX1, Cond.code yX1_arrange cX1_arrange 3 none, Cond.fieldLink RX1 25 "TreemapLayout$Layout" "rects" "LTreemapLayout$Rects;", Cond.fieldLink RX1 60 "TreemapLayout$State" "canvasWidth" "I", Cond.fieldLink RX1 66 "TreemapLayout$State" "canvasHeight" "I", Cond.fieldLink RX1 18 "TreemapLayout$Layout" "hidden" "[Z", Cond.fieldLink RX1 73 "TreemapLayout$State" "count" "I", Cond.fieldLink RX1 29 "TreemapLayout$Layout" "order" "[I", Cond.methodLink RX1 53 yX1_orderNodes, Cond.instanceMethod yX1_orderNodes, Cond.selects RX1 yX1_orderNodes yX1_orderNodes]
def wsX7_setMode_r3 : List Cond := [Cond.code yX1_orderNodes cX1_orderNodes 6 none, Cond.fieldLink RX1 15 "TreemapLayout$Layout" "depths" "[I", Cond.fieldLink RX1 32 "TreemapLayout$Layout" "firstChildren" "[I", Cond.fieldLink RX1 80 "TreemapLayout$State" "parents" "[I", Cond.fieldLink RX1 35 "TreemapLayout$Layout" "childCounts" "[I", Cond.methodLink RX1 57 yX1_sumSizes, Cond.instanceMethod yX1_sumSizes, Cond.selects RX1 yX1_sumSizes yX1_sumSizes, Cond.code yX1_sumSizes cX1_sumSizes 7 none, Cond.fieldLink RX1 9 "TreemapLayout$Layout" "sizes" "[I", Cond.fieldLink RX1 83 "TreemapLayout$State" "ownSizes" "[I", Cond.methodLink RX1 45 yX1_isLeaf, Cond.instanceMethod yX1_isLeaf, Cond.selects RX1 yX1_isLeaf yX1_isLeaf, Cond.code yX1_isLeaf cX1_isLeaf 2 (some .boolean), Cond.methodLink RX1 69 yX3_put, Cond.instanceMethod yX3_put, Cond.selects RX3 yX3_put yX3_put, Cond.initialized RX3, Cond.code yX3_put cX3_put 6 none, Cond.fieldLink RX3 9 "TreemapLayout$Rects" "lefts" "[I", Cond.fieldLink RX3 15 "TreemapLayout$Rects" "tops" "[I", Cond.fieldLink RX3 18 "TreemapLayout$Rects" "widths" "[I", Cond.fieldLink RX3 21 "TreemapLayout$Rects" "heights" "[I"]
def wsX7_setMode_r4 : List Cond := [Cond.methodLink RX1 76 yX1_placeChildren, Cond.instanceMethod yX1_placeChildren, Cond.selects RX1 yX1_placeChildren yX1_placeChildren, Cond.code yX1_placeChildren cX1_placeChildren 8 none, Cond.fieldLink RX1 86 "TreemapLayout$State" "padding" "I", Cond.fieldLink RX1 41 "TreemapLayout$Layout" "placer" "LTreemapLayout$Placer;", Cond.fieldLink RX1 89 "TreemapLayout$Rects" "lefts" "[I", Cond.fieldLink RX1 92 "TreemapLayout$Rects" "tops" "[I", Cond.fieldLink RX1 95 "TreemapLayout$Rects" "widths" "[I", Cond.fieldLink RX1 98 "TreemapLayout$Rects" "heights" "[I", Cond.fieldLink RX1 113 "TreemapLayout$State" "mode" "I", Cond.methodLink RX1 101 yX2_open, Cond.instanceMethod yX2_open, Cond.selects RX2 yX2_open yX2_open, Cond.initialized RX2, Cond.code yX2_open cX2_open 5 none, Cond.fieldLink RX2 41 "TreemapLayout$Placer" "kidCount" "I", Cond.fieldLink RX2 21 "TreemapLayout$Placer" "free" "LTreemapLayout$Box;", Cond.methodLink RX2 45 yX0_set, Cond.instanceMethod yX0_set, Cond.selects RX0 yX0_set yX0_set, Cond.initialized RX0, Cond.code yX0_set cX0_set 5 none, Cond.fieldLink RX0 7 "TreemapLayout$Box" "left" "I"]
def wsX7_setMode_r5 : List Cond := [Cond.fieldLink RX0 13 "TreemapLayout$Box" "top" "I", Cond.fieldLink RX0 16 "TreemapLayout$Box" "wide" "I", Cond.fieldLink RX0 19 "TreemapLayout$Box" "high" "I", Cond.methodLink RX1 105 yX2_hasNoRoom, Cond.instanceMethod yX2_hasNoRoom, Cond.selects RX2 yX2_hasNoRoom yX2_hasNoRoom, Cond.code yX2_hasNoRoom cX2_hasNoRoom 1 (some .boolean), Cond.methodLink RX2 49 yX0_isEmpty, Cond.instanceMethod yX0_isEmpty, Cond.selects RX0 yX0_isEmpty yX0_isEmpty, Cond.code yX0_isEmpty cX0_isEmpty 1 (some .boolean), Cond.methodLink RX1 109 yX2_add, Cond.instanceMethod yX2_add, Cond.selects RX2 yX2_add yX2_add, Cond.code yX2_add cX2_add 3 none, Cond.fieldLink RX2 9 "TreemapLayout$Placer" "kids" "[I", Cond.fieldLink RX2 15 "TreemapLayout$Placer" "kidSizes" "[I", Cond.methodLink RX1 116 yX2_slice, Cond.instanceMethod yX2_slice, Cond.selects RX2 yX2_slice yX2_slice, Cond.code yX2_slice cX2_slice 3 none, Cond.fieldLink RX2 25 "TreemapLayout$Placer" "band" "LTreemapLayout$Box;", Cond.fieldLink RX2 53 "TreemapLayout$Box" "left" "I", Cond.fieldLink RX2 56 "TreemapLayout$Box" "top" "I"]
def wsX7_setMode_r6 : List Cond := [Cond.fieldLink RX2 59 "TreemapLayout$Box" "wide" "I", Cond.fieldLink RX2 62 "TreemapLayout$Box" "high" "I", Cond.methodLink RX2 65 yX2_fillBand, Cond.instanceMethod yX2_fillBand, Cond.selects RX2 yX2_fillBand yX2_fillBand, Cond.code yX2_fillBand cX2_fillBand 8 none, Cond.fieldLink RX2 31 "TreemapLayout$Placer" "kidShares" "LTreemapLayout$Shares;", Cond.fieldLink RX2 79 "TreemapLayout$Shares" "pixels" "[I", Cond.methodLink RX2 86 yX4_clear, Cond.instanceMethod yX4_clear, Cond.selects RX4 yX4_clear yX4_clear, Cond.initialized RX4, Cond.code yX4_clear cX4_clear 1 none, Cond.fieldLink RX4 21 "TreemapLayout$Shares" "count" "I", Cond.methodLink RX2 97 yX4_add, Cond.instanceMethod yX4_add, Cond.selects RX4 yX4_add yX4_add, Cond.code yX4_add cX4_add 2 none, Cond.fieldLink RX4 9 "TreemapLayout$Shares" "partSizes" "[I", Cond.methodLink RX2 72 yX4_apportion, Cond.instanceMethod yX4_apportion, Cond.selects RX4 yX4_apportion yX4_apportion, Cond.code yX4_apportion cX4_apportion 6 none, Cond.fieldLink RX4 18 "TreemapLayout$Shares" "pixels" "[I"]
def wsX7_setMode_r7 : List Cond := [Cond.fieldLink RX4 15 "TreemapLayout$Shares" "remainders" "[I", Cond.methodLink RX4 25 yX4_largestRemainder, Cond.instanceMethod yX4_largestRemainder, Cond.selects RX4 yX4_largestRemainder yX4_largestRemainder, Cond.code yX4_largestRemainder cX4_largestRemainder 3 (some .int), Cond.methodLink RX2 136 yX3_put, Cond.methodLink RX1 120 yX2_strip, Cond.instanceMethod yX2_strip, Cond.selects RX2 yX2_strip yX2_strip, Cond.code yX2_strip cX2_strip 5 none, Cond.fieldLink RX2 35 "TreemapLayout$Placer" "stripShares" "LTreemapLayout$Shares;", Cond.fieldLink RX2 76 "TreemapLayout$Shares" "count" "I", Cond.fieldLink RX2 38 "TreemapLayout$Placer" "stripEnds" "[I", Cond.methodLink RX2 69 yX2_splitIntoStrips, Cond.instanceMethod yX2_splitIntoStrips, Cond.selects RX2 yX2_splitIntoStrips yX2_splitIntoStrips, Cond.code yX2_splitIntoStrips cX2_splitIntoStrips 5 none, Cond.methodLink RX2 82 yX2_pixelsPerSize, Cond.instanceMethod yX2_pixelsPerSize, Cond.selects RX2 yX2_pixelsPerSize yX2_pixelsPerSize, Cond.code yX2_pixelsPerSize cX2_pixelsPerSize 3 (some .float), Cond.methodLink RX2 93 yX2_sumOfSizes, Cond.instanceMethod yX2_sumOfSizes, Cond.selects RX2 yX2_sumOfSizes yX2_sumOfSizes]
def wsX7_setMode_r8 : List Cond := [Cond.code yX2_sumOfSizes cX2_sumOfSizes 5 (some .int), Cond.methodLink RX2 89 yX2_averageRatio, Cond.instanceMethod yX2_averageRatio, Cond.selects RX2 yX2_averageRatio yX2_averageRatio, Cond.code yX2_averageRatio cX2_averageRatio 7 (some .float), Cond.methodLink RX2 100 yX2_thicknessOf, Cond.static yX2_thicknessOf, Cond.code yX2_thicknessOf cX2_thicknessOf 3 (some .float), Cond.methodLink RX2 104 yX2_ratio, Cond.static yX2_ratio, Cond.code yX2_ratio cX2_ratio 6 (some .float), Cond.methodLink RX1 124 yX2_squarify, Cond.instanceMethod yX2_squarify, Cond.selects RX2 yX2_squarify yX2_squarify, Cond.code yX2_squarify cX2_squarify 6 none, Cond.methodLink RX2 108 yX2_sortByFallingSize, Cond.instanceMethod yX2_sortByFallingSize, Cond.selects RX2 yX2_sortByFallingSize yX2_sortByFallingSize, Cond.code yX2_sortByFallingSize cX2_sortByFallingSize 5 none, Cond.methodLink RX2 111 yX2_collapse, Cond.instanceMethod yX2_collapse, Cond.selects RX2 yX2_collapse yX2_collapse, Cond.code yX2_collapse cX2_collapse 4 none, Cond.methodLink RX2 115 yX2_endOfRow]
def wsX7_setMode_r9 : List Cond := [Cond.instanceMethod yX2_endOfRow, Cond.selects RX2 yX2_endOfRow yX2_endOfRow, Cond.code yX2_endOfRow cX2_endOfRow 7 (some .int), Cond.methodLink RX2 123 Lib.Math.min.name, Cond.static Lib.Math.min.name, Cond.initialized "java/lang/Math", Cond.code Lib.Math.min.name Lib.Math.min.code 2 (some .int), Cond.methodLink RX2 128 yX2_worstRatio, Cond.instanceMethod yX2_worstRatio, Cond.selects RX2 yX2_worstRatio yX2_worstRatio, Cond.code yX2_worstRatio cX2_worstRatio 9 (some .float), Cond.methodLink RX2 119 yX2_cutBand, Cond.instanceMethod yX2_cutBand, Cond.selects RX2 yX2_cutBand yX2_cutBand, Cond.code yX2_cutBand cX2_cutBand 5 none, Cond.methodLink RX2 132 yX2_rowThickness, Cond.instanceMethod yX2_rowThickness, Cond.selects RX2 yX2_rowThickness yX2_rowThickness, Cond.code yX2_rowThickness cX2_rowThickness 5 (some .int)]
def wsX7_setMode : List Cond := .code yX7_setMode cX7_setMode 3 (some .int) :: ((wsX7_setMode_r1 ++ (wsX7_setMode_r2 ++ (wsX7_setMode_r3 ++ (wsX7_setMode_r4 ++ (wsX7_setMode_r5 ++ (wsX7_setMode_r6 ++ (wsX7_setMode_r7 ++ (wsX7_setMode_r8 ++ wsX7_setMode_r9)))))))) ++ wsX70 ++ wsX50 ++ wsX60 ++ wsX10 ++ wsX30 ++ wsX20 ++ wsX00 ++ wsX40)
def wsX7_nodeCount : List Cond := .code yX7_nodeCount cX7_nodeCount 1 (some .int) :: ([.fieldLink RX7 10 "TreemapLayout" "state" "LTreemapLayout$State;", .fieldLink RX7 51 "TreemapLayout$State" "count" "I"] ++ wsX70 ++ wsX50)
def wsX7_size : List Cond := .code yX7_size cX7_size 2 (some .int) :: ([.fieldLink RX7 10 "TreemapLayout" "state" "LTreemapLayout$State;", .fieldLink RX7 19 "TreemapLayout" "layout" "LTreemapLayout$Layout;", .fieldLink RX7 101 "TreemapLayout$Layout" "sizes" "[I", .methodLink RX7 40 yX5_has, .instanceMethod yX5_has, .selects RX5 yX5_has yX5_has, .initialized RX5, .code yX5_has cX5_has 2 (some .boolean), .fieldLink RX5 18 "TreemapLayout$State" "count" "I", .methodLink RX7 47 yX7_failInvalid, .instanceMethod yX7_failInvalid, .selects RX7 yX7_failInvalid yX7_failInvalid, .initialized RX7, .code yX7_failInvalid cX7_failInvalid 1 (some .int), .fieldLink RX7 158 "TreemapLayout" "invalidCalls" "I"] ++ wsX70 ++ wsX10 ++ wsX50)
def wsX7_parent : List Cond := .code yX7_parent cX7_parent 2 (some .int) :: ([.fieldLink RX7 10 "TreemapLayout" "state" "LTreemapLayout$State;", .fieldLink RX7 83 "TreemapLayout$State" "parents" "[I", .methodLink RX7 40 yX5_has, .instanceMethod yX5_has, .selects RX5 yX5_has yX5_has, .initialized RX5, .code yX5_has cX5_has 2 (some .boolean), .fieldLink RX5 18 "TreemapLayout$State" "count" "I", .methodLink RX7 47 yX7_failInvalid, .instanceMethod yX7_failInvalid, .selects RX7 yX7_failInvalid yX7_failInvalid, .initialized RX7, .code yX7_failInvalid cX7_failInvalid 1 (some .int), .fieldLink RX7 158 "TreemapLayout" "invalidCalls" "I"] ++ wsX70 ++ wsX50)
def wsX7_depth : List Cond := .code yX7_depth cX7_depth 2 (some .int) :: ([.fieldLink RX7 10 "TreemapLayout" "state" "LTreemapLayout$State;", .fieldLink RX7 19 "TreemapLayout" "layout" "LTreemapLayout$Layout;", .fieldLink RX7 104 "TreemapLayout$Layout" "depths" "[I", .methodLink RX7 40 yX5_has, .instanceMethod yX5_has, .selects RX5 yX5_has yX5_has, .initialized RX5, .code yX5_has cX5_has 2 (some .boolean), .fieldLink RX5 18 "TreemapLayout$State" "count" "I", .methodLink RX7 47 yX7_failInvalid, .instanceMethod yX7_failInvalid, .selects RX7 yX7_failInvalid yX7_failInvalid, .initialized RX7, .code yX7_failInvalid cX7_failInvalid 1 (some .int), .fieldLink RX7 158 "TreemapLayout" "invalidCalls" "I"] ++ wsX70 ++ wsX10 ++ wsX50)
def wsX7_leafCount : List Cond := .code yX7_leafCount cX7_leafCount 3 (some .int) :: ([.fieldLink RX7 10 "TreemapLayout" "state" "LTreemapLayout$State;", .fieldLink RX7 51 "TreemapLayout$State" "count" "I", .fieldLink RX7 19 "TreemapLayout" "layout" "LTreemapLayout$Layout;", .methodLink RX7 69 yX1_isLeaf, .instanceMethod yX1_isLeaf, .selects RX1 yX1_isLeaf yX1_isLeaf, .initialized RX1, .code yX1_isLeaf cX1_isLeaf 2 (some .boolean), .fieldLink RX1 35 "TreemapLayout$Layout" "childCounts" "[I"] ++ wsX70 ++ wsX50 ++ wsX10)
def wsX7_x : List Cond := .code yX7_x cX7_x 2 (some .int) :: ([.fieldLink RX7 10 "TreemapLayout" "state" "LTreemapLayout$State;", .fieldLink RX7 19 "TreemapLayout" "layout" "LTreemapLayout$Layout;", .fieldLink RX7 107 "TreemapLayout$Layout" "rects" "LTreemapLayout$Rects;", .fieldLink RX7 111 "TreemapLayout$Rects" "lefts" "[I", .methodLink RX7 40 yX5_has, .instanceMethod yX5_has, .selects RX5 yX5_has yX5_has, .initialized RX5, .code yX5_has cX5_has 2 (some .boolean), .fieldLink RX5 18 "TreemapLayout$State" "count" "I", .methodLink RX7 47 yX7_failInvalid, .instanceMethod yX7_failInvalid, .selects RX7 yX7_failInvalid yX7_failInvalid, .initialized RX7, .code yX7_failInvalid cX7_failInvalid 1 (some .int), .fieldLink RX7 158 "TreemapLayout" "invalidCalls" "I"] ++ wsX70 ++ wsX10 ++ wsX30 ++ wsX50)
def wsX7_y : List Cond := .code yX7_y cX7_y 2 (some .int) :: ([.fieldLink RX7 10 "TreemapLayout" "state" "LTreemapLayout$State;", .fieldLink RX7 19 "TreemapLayout" "layout" "LTreemapLayout$Layout;", .fieldLink RX7 107 "TreemapLayout$Layout" "rects" "LTreemapLayout$Rects;", .fieldLink RX7 116 "TreemapLayout$Rects" "tops" "[I", .methodLink RX7 40 yX5_has, .instanceMethod yX5_has, .selects RX5 yX5_has yX5_has, .initialized RX5, .code yX5_has cX5_has 2 (some .boolean), .fieldLink RX5 18 "TreemapLayout$State" "count" "I", .methodLink RX7 47 yX7_failInvalid, .instanceMethod yX7_failInvalid, .selects RX7 yX7_failInvalid yX7_failInvalid, .initialized RX7, .code yX7_failInvalid cX7_failInvalid 1 (some .int), .fieldLink RX7 158 "TreemapLayout" "invalidCalls" "I"] ++ wsX70 ++ wsX10 ++ wsX30 ++ wsX50)
def wsX7_width : List Cond := .code yX7_width cX7_width 2 (some .int) :: ([.fieldLink RX7 10 "TreemapLayout" "state" "LTreemapLayout$State;", .fieldLink RX7 19 "TreemapLayout" "layout" "LTreemapLayout$Layout;", .fieldLink RX7 107 "TreemapLayout$Layout" "rects" "LTreemapLayout$Rects;", .fieldLink RX7 119 "TreemapLayout$Rects" "widths" "[I", .methodLink RX7 40 yX5_has, .instanceMethod yX5_has, .selects RX5 yX5_has yX5_has, .initialized RX5, .code yX5_has cX5_has 2 (some .boolean), .fieldLink RX5 18 "TreemapLayout$State" "count" "I", .methodLink RX7 47 yX7_failInvalid, .instanceMethod yX7_failInvalid, .selects RX7 yX7_failInvalid yX7_failInvalid, .initialized RX7, .code yX7_failInvalid cX7_failInvalid 1 (some .int), .fieldLink RX7 158 "TreemapLayout" "invalidCalls" "I"] ++ wsX70 ++ wsX10 ++ wsX30 ++ wsX50)
def wsX7_height : List Cond := .code yX7_height cX7_height 2 (some .int) :: ([.fieldLink RX7 10 "TreemapLayout" "state" "LTreemapLayout$State;", .fieldLink RX7 19 "TreemapLayout" "layout" "LTreemapLayout$Layout;", .fieldLink RX7 107 "TreemapLayout$Layout" "rects" "LTreemapLayout$Rects;", .fieldLink RX7 122 "TreemapLayout$Rects" "heights" "[I", .methodLink RX7 40 yX5_has, .instanceMethod yX5_has, .selects RX5 yX5_has yX5_has, .initialized RX5, .code yX5_has cX5_has 2 (some .boolean), .fieldLink RX5 18 "TreemapLayout$State" "count" "I", .methodLink RX7 47 yX7_failInvalid, .instanceMethod yX7_failInvalid, .selects RX7 yX7_failInvalid yX7_failInvalid, .initialized RX7, .code yX7_failInvalid cX7_failInvalid 1 (some .int), .fieldLink RX7 158 "TreemapLayout" "invalidCalls" "I"] ++ wsX70 ++ wsX10 ++ wsX30 ++ wsX50)
def wsX7_hiddenFlag : List Cond := .code yX7_hiddenFlag cX7_hiddenFlag 2 (some .int) :: ([.fieldLink RX7 19 "TreemapLayout" "layout" "LTreemapLayout$Layout;", .fieldLink RX7 187 "TreemapLayout$Layout" "hidden" "[Z"] ++ wsX70 ++ wsX10)
def wsX7_isHidden : List Cond := .code yX7_isHidden cX7_isHidden 2 (some .int) :: ([.fieldLink RX7 10 "TreemapLayout" "state" "LTreemapLayout$State;", .methodLink RX7 40 yX5_has, .instanceMethod yX5_has, .selects RX5 yX5_has yX5_has, .initialized RX5, .code yX5_has cX5_has 2 (some .boolean), .fieldLink RX5 18 "TreemapLayout$State" "count" "I", .methodLink RX7 125 yX7_hiddenFlag, .instanceMethod yX7_hiddenFlag, .selects RX7 yX7_hiddenFlag yX7_hiddenFlag, .initialized RX7, .code yX7_hiddenFlag cX7_hiddenFlag 2 (some .int), .fieldLink RX7 19 "TreemapLayout" "layout" "LTreemapLayout$Layout;", .fieldLink RX7 187 "TreemapLayout$Layout" "hidden" "[Z", .methodLink RX7 47 yX7_failInvalid, .instanceMethod yX7_failInvalid, .selects RX7 yX7_failInvalid yX7_failInvalid, .code yX7_failInvalid cX7_failInvalid 1 (some .int), .fieldLink RX7 158 "TreemapLayout" "invalidCalls" "I"] ++ wsX70 ++ wsX50 ++ wsX10)
def wsX7_nodeAt : List Cond := .code yX7_nodeAt cX7_nodeAt 5 (some .int) :: ([.fieldLink RX7 10 "TreemapLayout" "state" "LTreemapLayout$State;", .fieldLink RX7 89 "TreemapLayout$State" "canvasWidth" "I", .fieldLink RX7 92 "TreemapLayout$State" "canvasHeight" "I", .fieldLink RX7 51 "TreemapLayout$State" "count" "I", .fieldLink RX7 19 "TreemapLayout" "layout" "LTreemapLayout$Layout;", .fieldLink RX7 107 "TreemapLayout$Layout" "rects" "LTreemapLayout$Rects;", .fieldLink RX7 104 "TreemapLayout$Layout" "depths" "[I", .methodLink RX7 47 yX7_failInvalid, .instanceMethod yX7_failInvalid, .selects RX7 yX7_failInvalid yX7_failInvalid, .initialized RX7, .code yX7_failInvalid cX7_failInvalid 1 (some .int), .fieldLink RX7 158 "TreemapLayout" "invalidCalls" "I", .methodLink RX7 129 yX3_contain, .instanceMethod yX3_contain, .selects RX3 yX3_contain yX3_contain, .initialized RX3, .code yX3_contain cX3_contain 4 (some .boolean), .fieldLink RX3 9 "TreemapLayout$Rects" "lefts" "[I", .fieldLink RX3 18 "TreemapLayout$Rects" "widths" "[I", .fieldLink RX3 15 "TreemapLayout$Rects" "tops" "[I", .fieldLink RX3 21 "TreemapLayout$Rects" "heights" "[I"] ++ wsX70 ++ wsX50 ++ wsX10 ++ wsX30)
def wsX7_leafPixels : List Cond := .code yX7_leafPixels cX7_leafPixels 3 (some .int) :: ([.fieldLink RX7 10 "TreemapLayout" "state" "LTreemapLayout$State;", .fieldLink RX7 51 "TreemapLayout$State" "count" "I", .fieldLink RX7 19 "TreemapLayout" "layout" "LTreemapLayout$Layout;", .fieldLink RX7 107 "TreemapLayout$Layout" "rects" "LTreemapLayout$Rects;", .methodLink RX7 69 yX1_isLeaf, .instanceMethod yX1_isLeaf, .selects RX1 yX1_isLeaf yX1_isLeaf, .initialized RX1, .code yX1_isLeaf cX1_isLeaf 2 (some .boolean), .fieldLink RX1 35 "TreemapLayout$Layout" "childCounts" "[I", .methodLink RX7 133 yX3_area, .instanceMethod yX3_area, .selects RX3 yX3_area yX3_area, .initialized RX3, .code yX3_area cX3_area 2 (some .int), .fieldLink RX3 18 "TreemapLayout$Rects" "widths" "[I", .fieldLink RX3 21 "TreemapLayout$Rects" "heights" "[I"] ++ wsX70 ++ wsX50 ++ wsX10 ++ wsX30)
def wsX7_floatBits : List Cond := .code yX7_floatBits cX7_floatBits 4 (some .int) :: ([.constantFloat RX7 191 (1258291200), .constant RX7 192 (8388608)])
def wsX7_worstAspect_r1 : List Cond := [Cond.fieldLink RX7 10 "TreemapLayout" "state" "LTreemapLayout$State;", Cond.fieldLink RX7 51 "TreemapLayout$State" "count" "I", Cond.fieldLink RX7 19 "TreemapLayout" "layout" "LTreemapLayout$Layout;", Cond.fieldLink RX7 107 "TreemapLayout$Layout" "rects" "LTreemapLayout$Rects;", Cond.methodLink RX7 136 yX1_isLeafWithArea, Cond.instanceMethod yX1_isLeafWithArea, Cond.selects RX1 yX1_isLeafWithArea yX1_isLeafWithArea, Cond.initialized RX1, Cond.code yX1_isLeafWithArea cX1_isLeafWithArea 2 (some .boolean), Cond.fieldLink RX1 25 "TreemapLayout$Layout" "rects" "LTreemapLayout$Rects;", Cond.methodLink RX1 45 yX1_isLeaf, Cond.instanceMethod yX1_isLeaf, Cond.selects RX1 yX1_isLeaf yX1_isLeaf, Cond.code yX1_isLeaf cX1_isLeaf 2 (some .boolean), Cond.fieldLink RX1 35 "TreemapLayout$Layout" "childCounts" "[I", Cond.methodLink RX1 49 yX3_area, Cond.instanceMethod yX3_area, Cond.selects RX3 yX3_area yX3_area, Cond.initialized RX3, Cond.code yX3_area cX3_area 2 (some .int), Cond.fieldLink RX3 18 "TreemapLayout$Rects" "widths" "[I", Cond.fieldLink RX3 21 "TreemapLayout$Rects" "heights" "[I", Cond.methodLink RX7 139 yX3_aspect, Cond.instanceMethod yX3_aspect]
def wsX7_worstAspect_r2 : List Cond := [Cond.selects RX3 yX3_aspect yX3_aspect, Cond.code yX3_aspect cX3_aspect 4 (some .float), Cond.methodLink RX3 24 Lib.Math.max.name, Cond.static Lib.Math.max.name, Cond.initialized "java/lang/Math", Cond.code Lib.Math.max.name Lib.Math.max.code 2 (some .int), Cond.methodLink RX3 30 Lib.Math.min.name, Cond.static Lib.Math.min.name, Cond.code Lib.Math.min.name Lib.Math.min.code 2 (some .int), Cond.methodLink RX7 143 yX7_floatBits, Cond.static yX7_floatBits, Cond.initialized RX7, Cond.code yX7_floatBits cX7_floatBits 4 (some .int), Cond.constantFloat RX7 191 (1258291200), Cond.constant RX7 192 (8388608)]
def wsX7_worstAspect : List Cond := .code yX7_worstAspect cX7_worstAspect 4 (some .int) :: ((wsX7_worstAspect_r1 ++ wsX7_worstAspect_r2) ++ wsX70 ++ wsX50 ++ wsX10 ++ wsX30)
def wsX7_averageAspect_r1 : List Cond := [Cond.fieldLink RX7 10 "TreemapLayout" "state" "LTreemapLayout$State;", Cond.fieldLink RX7 51 "TreemapLayout$State" "count" "I", Cond.fieldLink RX7 19 "TreemapLayout" "layout" "LTreemapLayout$Layout;", Cond.fieldLink RX7 107 "TreemapLayout$Layout" "rects" "LTreemapLayout$Rects;", Cond.methodLink RX7 136 yX1_isLeafWithArea, Cond.instanceMethod yX1_isLeafWithArea, Cond.selects RX1 yX1_isLeafWithArea yX1_isLeafWithArea, Cond.initialized RX1, Cond.code yX1_isLeafWithArea cX1_isLeafWithArea 2 (some .boolean), Cond.fieldLink RX1 25 "TreemapLayout$Layout" "rects" "LTreemapLayout$Rects;", Cond.methodLink RX1 45 yX1_isLeaf, Cond.instanceMethod yX1_isLeaf, Cond.selects RX1 yX1_isLeaf yX1_isLeaf, Cond.code yX1_isLeaf cX1_isLeaf 2 (some .boolean), Cond.fieldLink RX1 35 "TreemapLayout$Layout" "childCounts" "[I", Cond.methodLink RX1 49 yX3_area, Cond.instanceMethod yX3_area, Cond.selects RX3 yX3_area yX3_area, Cond.initialized RX3, Cond.code yX3_area cX3_area 2 (some .int), Cond.fieldLink RX3 18 "TreemapLayout$Rects" "widths" "[I", Cond.fieldLink RX3 21 "TreemapLayout$Rects" "heights" "[I", Cond.methodLink RX7 139 yX3_aspect, Cond.instanceMethod yX3_aspect]
def wsX7_averageAspect_r2 : List Cond := [Cond.selects RX3 yX3_aspect yX3_aspect, Cond.code yX3_aspect cX3_aspect 4 (some .float), Cond.methodLink RX3 24 Lib.Math.max.name, Cond.static Lib.Math.max.name, Cond.initialized "java/lang/Math", Cond.code Lib.Math.max.name Lib.Math.max.code 2 (some .int), Cond.methodLink RX3 30 Lib.Math.min.name, Cond.static Lib.Math.min.name, Cond.code Lib.Math.min.name Lib.Math.min.code 2 (some .int), Cond.methodLink RX7 143 yX7_floatBits, Cond.static yX7_floatBits, Cond.initialized RX7, Cond.code yX7_floatBits cX7_floatBits 4 (some .int), Cond.constantFloat RX7 191 (1258291200), Cond.constant RX7 192 (8388608)]
def wsX7_averageAspect : List Cond := .code yX7_averageAspect cX7_averageAspect 4 (some .int) :: ((wsX7_averageAspect_r1 ++ wsX7_averageAspect_r2) ++ wsX70 ++ wsX50 ++ wsX10 ++ wsX30)
def wsX7_changeBy_r1 : List Cond := [Cond.fieldLink RX7 10 "TreemapLayout" "state" "LTreemapLayout$State;", Cond.fieldLink RX7 30 "TreemapLayout" "trialState" "LTreemapLayout$State;", Cond.fieldLink RX7 65 "TreemapLayout$State" "ownSizes" "[I", Cond.fieldLink RX7 33 "TreemapLayout" "trialLayout" "LTreemapLayout$Layout;", Cond.fieldLink RX7 51 "TreemapLayout$State" "count" "I", Cond.fieldLink RX7 19 "TreemapLayout" "layout" "LTreemapLayout$Layout;", Cond.fieldLink RX7 107 "TreemapLayout$Layout" "rects" "LTreemapLayout$Rects;", Cond.methodLink RX7 40 yX5_has, Cond.instanceMethod yX5_has, Cond.selects RX5 yX5_has yX5_has, Cond.initialized RX5, Cond.code yX5_has cX5_has 2 (some .boolean), Cond.fieldLink RX5 18 "TreemapLayout$State" "count" "I", Cond.methodLink RX7 44 yX7_isSize, Cond.static yX7_isSize, Cond.initialized RX7, Cond.code yX7_isSize cX7_isSize 1 (some .boolean), Cond.methodLink RX7 47 yX7_failInvalid, Cond.instanceMethod yX7_failInvalid, Cond.selects RX7 yX7_failInvalid yX7_failInvalid, Cond.code yX7_failInvalid cX7_failInvalid 1 (some .int), Cond.fieldLink RX7 158 "TreemapLayout" "invalidCalls" "I", Cond.methodLink RX7 147 yX5_copyFrom, Cond.instanceMethod yX5_copyFrom]
def wsX7_changeBy_r2 : List Cond := [Cond.selects RX5 yX5_copyFrom yX5_copyFrom, Cond.code yX5_copyFrom cX5_copyFrom 2 none, Cond.fieldLink RX5 9 "TreemapLayout$State" "ownSizes" "[I", Cond.methodLink RX5 34 arraycopyName, Cond.native arraycopyName, Cond.static arraycopyName, Cond.initialized "java/lang/System", Cond.fieldLink RX5 15 "TreemapLayout$State" "parents" "[I", Cond.fieldLink RX5 22 "TreemapLayout$State" "canvasWidth" "I", Cond.fieldLink RX5 25 "TreemapLayout$State" "canvasHeight" "I", Cond.fieldLink RX5 28 "TreemapLayout$State" "padding" "I", Cond.fieldLink RX5 31 "TreemapLayout$State" "mode" "I", Cond.methodLink RX7 36 yX1_arrange, Cond.instanceMethod yX1_arrange, Cond.selects RX1 yX1_arrange yX1_arrange, Cond.initialized RX1, Cond.code yX1_arrange cX1_arrange 3 none, Cond.fieldLink RX1 25 "TreemapLayout$Layout" "rects" "LTreemapLayout$Rects;", Cond.fieldLink RX1 60 "TreemapLayout$State" "canvasWidth" "I", Cond.fieldLink RX1 66 "TreemapLayout$State" "canvasHeight" "I", Cond.fieldLink RX1 18 "TreemapLayout$Layout" "hidden" "[Z", Cond.fieldLink RX1 73 "TreemapLayout$State" "count" "I", Cond.fieldLink RX1 29 "TreemapLayout$Layout" "order" "[I", Cond.methodLink RX1 53 yX1_orderNodes]
def wsX7_changeBy_r3 : List Cond := [Cond.instanceMethod yX1_orderNodes, Cond.selects RX1 yX1_orderNodes yX1_orderNodes, Cond.code yX1_orderNodes cX1_orderNodes 6 none, Cond.fieldLink RX1 15 "TreemapLayout$Layout" "depths" "[I", Cond.fieldLink RX1 32 "TreemapLayout$Layout" "firstChildren" "[I", Cond.fieldLink RX1 80 "TreemapLayout$State" "parents" "[I", Cond.fieldLink RX1 35 "TreemapLayout$Layout" "childCounts" "[I", Cond.methodLink RX1 57 yX1_sumSizes, Cond.instanceMethod yX1_sumSizes, Cond.selects RX1 yX1_sumSizes yX1_sumSizes, Cond.code yX1_sumSizes cX1_sumSizes 7 none, Cond.fieldLink RX1 9 "TreemapLayout$Layout" "sizes" "[I", Cond.fieldLink RX1 83 "TreemapLayout$State" "ownSizes" "[I", Cond.methodLink RX1 45 yX1_isLeaf, Cond.instanceMethod yX1_isLeaf, Cond.selects RX1 yX1_isLeaf yX1_isLeaf, Cond.code yX1_isLeaf cX1_isLeaf 2 (some .boolean), Cond.methodLink RX1 69 yX3_put, Cond.instanceMethod yX3_put, Cond.selects RX3 yX3_put yX3_put, Cond.initialized RX3, Cond.code yX3_put cX3_put 6 none, Cond.fieldLink RX3 9 "TreemapLayout$Rects" "lefts" "[I", Cond.fieldLink RX3 15 "TreemapLayout$Rects" "tops" "[I"]
def wsX7_changeBy_r4 : List Cond := [Cond.fieldLink RX3 18 "TreemapLayout$Rects" "widths" "[I", Cond.fieldLink RX3 21 "TreemapLayout$Rects" "heights" "[I", Cond.methodLink RX1 76 yX1_placeChildren, Cond.instanceMethod yX1_placeChildren, Cond.selects RX1 yX1_placeChildren yX1_placeChildren, Cond.code yX1_placeChildren cX1_placeChildren 8 none, Cond.fieldLink RX1 86 "TreemapLayout$State" "padding" "I", Cond.fieldLink RX1 41 "TreemapLayout$Layout" "placer" "LTreemapLayout$Placer;", Cond.fieldLink RX1 89 "TreemapLayout$Rects" "lefts" "[I", Cond.fieldLink RX1 92 "TreemapLayout$Rects" "tops" "[I", Cond.fieldLink RX1 95 "TreemapLayout$Rects" "widths" "[I", Cond.fieldLink RX1 98 "TreemapLayout$Rects" "heights" "[I", Cond.fieldLink RX1 113 "TreemapLayout$State" "mode" "I", Cond.methodLink RX1 101 yX2_open, Cond.instanceMethod yX2_open, Cond.selects RX2 yX2_open yX2_open, Cond.initialized RX2, Cond.code yX2_open cX2_open 5 none, Cond.fieldLink RX2 41 "TreemapLayout$Placer" "kidCount" "I", Cond.fieldLink RX2 21 "TreemapLayout$Placer" "free" "LTreemapLayout$Box;", Cond.methodLink RX2 45 yX0_set, Cond.instanceMethod yX0_set, Cond.selects RX0 yX0_set yX0_set, Cond.initialized RX0]
def wsX7_changeBy_r5 : List Cond := [Cond.code yX0_set cX0_set 5 none, Cond.fieldLink RX0 7 "TreemapLayout$Box" "left" "I", Cond.fieldLink RX0 13 "TreemapLayout$Box" "top" "I", Cond.fieldLink RX0 16 "TreemapLayout$Box" "wide" "I", Cond.fieldLink RX0 19 "TreemapLayout$Box" "high" "I", Cond.methodLink RX1 105 yX2_hasNoRoom, Cond.instanceMethod yX2_hasNoRoom, Cond.selects RX2 yX2_hasNoRoom yX2_hasNoRoom, Cond.code yX2_hasNoRoom cX2_hasNoRoom 1 (some .boolean), Cond.methodLink RX2 49 yX0_isEmpty, Cond.instanceMethod yX0_isEmpty, Cond.selects RX0 yX0_isEmpty yX0_isEmpty, Cond.code yX0_isEmpty cX0_isEmpty 1 (some .boolean), Cond.methodLink RX1 109 yX2_add, Cond.instanceMethod yX2_add, Cond.selects RX2 yX2_add yX2_add, Cond.code yX2_add cX2_add 3 none, Cond.fieldLink RX2 9 "TreemapLayout$Placer" "kids" "[I", Cond.fieldLink RX2 15 "TreemapLayout$Placer" "kidSizes" "[I", Cond.methodLink RX1 116 yX2_slice, Cond.instanceMethod yX2_slice, Cond.selects RX2 yX2_slice yX2_slice, Cond.code yX2_slice cX2_slice 3 none, Cond.fieldLink RX2 25 "TreemapLayout$Placer" "band" "LTreemapLayout$Box;"]
def wsX7_changeBy_r6 : List Cond := [Cond.fieldLink RX2 53 "TreemapLayout$Box" "left" "I", Cond.fieldLink RX2 56 "TreemapLayout$Box" "top" "I", Cond.fieldLink RX2 59 "TreemapLayout$Box" "wide" "I", Cond.fieldLink RX2 62 "TreemapLayout$Box" "high" "I", Cond.methodLink RX2 65 yX2_fillBand, Cond.instanceMethod yX2_fillBand, Cond.selects RX2 yX2_fillBand yX2_fillBand, Cond.code yX2_fillBand cX2_fillBand 8 none, Cond.fieldLink RX2 31 "TreemapLayout$Placer" "kidShares" "LTreemapLayout$Shares;", Cond.fieldLink RX2 79 "TreemapLayout$Shares" "pixels" "[I", Cond.methodLink RX2 86 yX4_clear, Cond.instanceMethod yX4_clear, Cond.selects RX4 yX4_clear yX4_clear, Cond.initialized RX4, Cond.code yX4_clear cX4_clear 1 none, Cond.fieldLink RX4 21 "TreemapLayout$Shares" "count" "I", Cond.methodLink RX2 97 yX4_add, Cond.instanceMethod yX4_add, Cond.selects RX4 yX4_add yX4_add, Cond.code yX4_add cX4_add 2 none, Cond.fieldLink RX4 9 "TreemapLayout$Shares" "partSizes" "[I", Cond.methodLink RX2 72 yX4_apportion, Cond.instanceMethod yX4_apportion, Cond.selects RX4 yX4_apportion yX4_apportion]
def wsX7_changeBy_r7 : List Cond := [Cond.code yX4_apportion cX4_apportion 6 none, Cond.fieldLink RX4 18 "TreemapLayout$Shares" "pixels" "[I", Cond.fieldLink RX4 15 "TreemapLayout$Shares" "remainders" "[I", Cond.methodLink RX4 25 yX4_largestRemainder, Cond.instanceMethod yX4_largestRemainder, Cond.selects RX4 yX4_largestRemainder yX4_largestRemainder, Cond.code yX4_largestRemainder cX4_largestRemainder 3 (some .int), Cond.methodLink RX2 136 yX3_put, Cond.methodLink RX1 120 yX2_strip, Cond.instanceMethod yX2_strip, Cond.selects RX2 yX2_strip yX2_strip, Cond.code yX2_strip cX2_strip 5 none, Cond.fieldLink RX2 35 "TreemapLayout$Placer" "stripShares" "LTreemapLayout$Shares;", Cond.fieldLink RX2 76 "TreemapLayout$Shares" "count" "I", Cond.fieldLink RX2 38 "TreemapLayout$Placer" "stripEnds" "[I", Cond.methodLink RX2 69 yX2_splitIntoStrips, Cond.instanceMethod yX2_splitIntoStrips, Cond.selects RX2 yX2_splitIntoStrips yX2_splitIntoStrips, Cond.code yX2_splitIntoStrips cX2_splitIntoStrips 5 none, Cond.methodLink RX2 82 yX2_pixelsPerSize, Cond.instanceMethod yX2_pixelsPerSize, Cond.selects RX2 yX2_pixelsPerSize yX2_pixelsPerSize, Cond.code yX2_pixelsPerSize cX2_pixelsPerSize 3 (some .float), Cond.methodLink RX2 93 yX2_sumOfSizes]
def wsX7_changeBy_r8 : List Cond := [Cond.instanceMethod yX2_sumOfSizes, Cond.selects RX2 yX2_sumOfSizes yX2_sumOfSizes, Cond.code yX2_sumOfSizes cX2_sumOfSizes 5 (some .int), Cond.methodLink RX2 89 yX2_averageRatio, Cond.instanceMethod yX2_averageRatio, Cond.selects RX2 yX2_averageRatio yX2_averageRatio, Cond.code yX2_averageRatio cX2_averageRatio 7 (some .float), Cond.methodLink RX2 100 yX2_thicknessOf, Cond.static yX2_thicknessOf, Cond.code yX2_thicknessOf cX2_thicknessOf 3 (some .float), Cond.methodLink RX2 104 yX2_ratio, Cond.static yX2_ratio, Cond.code yX2_ratio cX2_ratio 6 (some .float), Cond.methodLink RX1 124 yX2_squarify, Cond.instanceMethod yX2_squarify, Cond.selects RX2 yX2_squarify yX2_squarify, Cond.code yX2_squarify cX2_squarify 6 none, Cond.methodLink RX2 108 yX2_sortByFallingSize, Cond.instanceMethod yX2_sortByFallingSize, Cond.selects RX2 yX2_sortByFallingSize yX2_sortByFallingSize, Cond.code yX2_sortByFallingSize cX2_sortByFallingSize 5 none, Cond.methodLink RX2 111 yX2_collapse, Cond.instanceMethod yX2_collapse, Cond.selects RX2 yX2_collapse yX2_collapse]
def wsX7_changeBy_r9 : List Cond := [Cond.code yX2_collapse cX2_collapse 4 none, Cond.methodLink RX2 115 yX2_endOfRow, Cond.instanceMethod yX2_endOfRow, Cond.selects RX2 yX2_endOfRow yX2_endOfRow, Cond.code yX2_endOfRow cX2_endOfRow 7 (some .int), Cond.methodLink RX2 123 Lib.Math.min.name, Cond.static Lib.Math.min.name, Cond.initialized "java/lang/Math", Cond.code Lib.Math.min.name Lib.Math.min.code 2 (some .int), Cond.methodLink RX2 128 yX2_worstRatio, Cond.instanceMethod yX2_worstRatio, Cond.selects RX2 yX2_worstRatio yX2_worstRatio, Cond.code yX2_worstRatio cX2_worstRatio 9 (some .float), Cond.methodLink RX2 119 yX2_cutBand, Cond.instanceMethod yX2_cutBand, Cond.selects RX2 yX2_cutBand yX2_cutBand, Cond.code yX2_cutBand cX2_cutBand 5 none, Cond.methodLink RX2 132 yX2_rowThickness, Cond.instanceMethod yX2_rowThickness, Cond.selects RX2 yX2_rowThickness yX2_rowThickness, Cond.code yX2_rowThickness cX2_rowThickness 5 (some .int), Cond.methodLink RX7 150 yX3_difference, Cond.instanceMethod yX3_difference, Cond.selects RX3 yX3_difference yX3_difference]
def wsX7_changeBy_r10 : List Cond := [Cond.code yX3_difference cX3_difference 3 (some .int), Cond.methodLink RX3 33 Lib.Math.abs.name, Cond.static Lib.Math.abs.name, Cond.code Lib.Math.abs.name Lib.Math.abs.code 1 (some .int)]
def wsX7_changeBy : List Cond := .code yX7_changeBy cX7_changeBy 5 (some .int) :: ((wsX7_changeBy_r1 ++ (wsX7_changeBy_r2 ++ (wsX7_changeBy_r3 ++ (wsX7_changeBy_r4 ++ (wsX7_changeBy_r5 ++ (wsX7_changeBy_r6 ++ (wsX7_changeBy_r7 ++ (wsX7_changeBy_r8 ++ (wsX7_changeBy_r9 ++ wsX7_changeBy_r10))))))))) ++ wsX70 ++ wsX50 ++ wsX10 ++ wsX30 ++ wsX20 ++ wsX00 ++ wsX40)
def wsX7_undo_r1 : List Cond := [Cond.fieldLink RX7 26 "TreemapLayout" "saved" "LTreemapLayout$UndoStack;", Cond.fieldLink RX7 154 "TreemapLayout$UndoStack" "count" "I", Cond.fieldLink RX7 10 "TreemapLayout" "state" "LTreemapLayout$State;", Cond.fieldLink RX7 19 "TreemapLayout" "layout" "LTreemapLayout$Layout;", Cond.methodLink RX7 72 yX7_failRejected, Cond.instanceMethod yX7_failRejected, Cond.selects RX7 yX7_failRejected yX7_failRejected, Cond.initialized RX7, Cond.code yX7_failRejected cX7_failRejected 1 (some .int), Cond.fieldLink RX7 161 "TreemapLayout" "rejectedCalls" "I", Cond.methodLink RX7 155 yX6_popInto, Cond.instanceMethod yX6_popInto, Cond.selects RX6 yX6_popInto yX6_popInto, Cond.initialized RX6, Cond.code yX6_popInto cX6_popInto 2 none, Cond.fieldLink RX6 26 "TreemapLayout$UndoStack" "count" "I", Cond.fieldLink RX6 18 "TreemapLayout$UndoStack" "next" "I", Cond.fieldLink RX6 11 "TreemapLayout$UndoStack" "slots" "[LTreemapLayout$State;", Cond.methodLink RX6 22 yX5_copyFrom, Cond.instanceMethod yX5_copyFrom, Cond.selects RX5 yX5_copyFrom yX5_copyFrom, Cond.initialized RX5, Cond.code yX5_copyFrom cX5_copyFrom 2 none, Cond.fieldLink RX5 9 "TreemapLayout$State" "ownSizes" "[I"]
def wsX7_undo_r2 : List Cond := [Cond.methodLink RX5 34 arraycopyName, Cond.native arraycopyName, Cond.static arraycopyName, Cond.initialized "java/lang/System", Cond.fieldLink RX5 15 "TreemapLayout$State" "parents" "[I", Cond.fieldLink RX5 18 "TreemapLayout$State" "count" "I", Cond.fieldLink RX5 22 "TreemapLayout$State" "canvasWidth" "I", Cond.fieldLink RX5 25 "TreemapLayout$State" "canvasHeight" "I", Cond.fieldLink RX5 28 "TreemapLayout$State" "padding" "I", Cond.fieldLink RX5 31 "TreemapLayout$State" "mode" "I", Cond.methodLink RX7 36 yX1_arrange, Cond.instanceMethod yX1_arrange, Cond.selects RX1 yX1_arrange yX1_arrange, Cond.initialized RX1, Cond.code yX1_arrange cX1_arrange 3 none, Cond.fieldLink RX1 25 "TreemapLayout$Layout" "rects" "LTreemapLayout$Rects;", Cond.fieldLink RX1 60 "TreemapLayout$State" "canvasWidth" "I", Cond.fieldLink RX1 66 "TreemapLayout$State" "canvasHeight" "I", Cond.fieldLink RX1 18 "TreemapLayout$Layout" "hidden" "[Z", Cond.fieldLink RX1 73 "TreemapLayout$State" "count" "I", Cond.fieldLink RX1 29 "TreemapLayout$Layout" "order" "[I", Cond.methodLink RX1 53 yX1_orderNodes, Cond.instanceMethod yX1_orderNodes, Cond.selects RX1 yX1_orderNodes yX1_orderNodes]
def wsX7_undo_r3 : List Cond := [Cond.code yX1_orderNodes cX1_orderNodes 6 none, Cond.fieldLink RX1 15 "TreemapLayout$Layout" "depths" "[I", Cond.fieldLink RX1 32 "TreemapLayout$Layout" "firstChildren" "[I", Cond.fieldLink RX1 80 "TreemapLayout$State" "parents" "[I", Cond.fieldLink RX1 35 "TreemapLayout$Layout" "childCounts" "[I", Cond.methodLink RX1 57 yX1_sumSizes, Cond.instanceMethod yX1_sumSizes, Cond.selects RX1 yX1_sumSizes yX1_sumSizes, Cond.code yX1_sumSizes cX1_sumSizes 7 none, Cond.fieldLink RX1 9 "TreemapLayout$Layout" "sizes" "[I", Cond.fieldLink RX1 83 "TreemapLayout$State" "ownSizes" "[I", Cond.methodLink RX1 45 yX1_isLeaf, Cond.instanceMethod yX1_isLeaf, Cond.selects RX1 yX1_isLeaf yX1_isLeaf, Cond.code yX1_isLeaf cX1_isLeaf 2 (some .boolean), Cond.methodLink RX1 69 yX3_put, Cond.instanceMethod yX3_put, Cond.selects RX3 yX3_put yX3_put, Cond.initialized RX3, Cond.code yX3_put cX3_put 6 none, Cond.fieldLink RX3 9 "TreemapLayout$Rects" "lefts" "[I", Cond.fieldLink RX3 15 "TreemapLayout$Rects" "tops" "[I", Cond.fieldLink RX3 18 "TreemapLayout$Rects" "widths" "[I", Cond.fieldLink RX3 21 "TreemapLayout$Rects" "heights" "[I"]
def wsX7_undo_r4 : List Cond := [Cond.methodLink RX1 76 yX1_placeChildren, Cond.instanceMethod yX1_placeChildren, Cond.selects RX1 yX1_placeChildren yX1_placeChildren, Cond.code yX1_placeChildren cX1_placeChildren 8 none, Cond.fieldLink RX1 86 "TreemapLayout$State" "padding" "I", Cond.fieldLink RX1 41 "TreemapLayout$Layout" "placer" "LTreemapLayout$Placer;", Cond.fieldLink RX1 89 "TreemapLayout$Rects" "lefts" "[I", Cond.fieldLink RX1 92 "TreemapLayout$Rects" "tops" "[I", Cond.fieldLink RX1 95 "TreemapLayout$Rects" "widths" "[I", Cond.fieldLink RX1 98 "TreemapLayout$Rects" "heights" "[I", Cond.fieldLink RX1 113 "TreemapLayout$State" "mode" "I", Cond.methodLink RX1 101 yX2_open, Cond.instanceMethod yX2_open, Cond.selects RX2 yX2_open yX2_open, Cond.initialized RX2, Cond.code yX2_open cX2_open 5 none, Cond.fieldLink RX2 41 "TreemapLayout$Placer" "kidCount" "I", Cond.fieldLink RX2 21 "TreemapLayout$Placer" "free" "LTreemapLayout$Box;", Cond.methodLink RX2 45 yX0_set, Cond.instanceMethod yX0_set, Cond.selects RX0 yX0_set yX0_set, Cond.initialized RX0, Cond.code yX0_set cX0_set 5 none, Cond.fieldLink RX0 7 "TreemapLayout$Box" "left" "I"]
def wsX7_undo_r5 : List Cond := [Cond.fieldLink RX0 13 "TreemapLayout$Box" "top" "I", Cond.fieldLink RX0 16 "TreemapLayout$Box" "wide" "I", Cond.fieldLink RX0 19 "TreemapLayout$Box" "high" "I", Cond.methodLink RX1 105 yX2_hasNoRoom, Cond.instanceMethod yX2_hasNoRoom, Cond.selects RX2 yX2_hasNoRoom yX2_hasNoRoom, Cond.code yX2_hasNoRoom cX2_hasNoRoom 1 (some .boolean), Cond.methodLink RX2 49 yX0_isEmpty, Cond.instanceMethod yX0_isEmpty, Cond.selects RX0 yX0_isEmpty yX0_isEmpty, Cond.code yX0_isEmpty cX0_isEmpty 1 (some .boolean), Cond.methodLink RX1 109 yX2_add, Cond.instanceMethod yX2_add, Cond.selects RX2 yX2_add yX2_add, Cond.code yX2_add cX2_add 3 none, Cond.fieldLink RX2 9 "TreemapLayout$Placer" "kids" "[I", Cond.fieldLink RX2 15 "TreemapLayout$Placer" "kidSizes" "[I", Cond.methodLink RX1 116 yX2_slice, Cond.instanceMethod yX2_slice, Cond.selects RX2 yX2_slice yX2_slice, Cond.code yX2_slice cX2_slice 3 none, Cond.fieldLink RX2 25 "TreemapLayout$Placer" "band" "LTreemapLayout$Box;", Cond.fieldLink RX2 53 "TreemapLayout$Box" "left" "I", Cond.fieldLink RX2 56 "TreemapLayout$Box" "top" "I"]
def wsX7_undo_r6 : List Cond := [Cond.fieldLink RX2 59 "TreemapLayout$Box" "wide" "I", Cond.fieldLink RX2 62 "TreemapLayout$Box" "high" "I", Cond.methodLink RX2 65 yX2_fillBand, Cond.instanceMethod yX2_fillBand, Cond.selects RX2 yX2_fillBand yX2_fillBand, Cond.code yX2_fillBand cX2_fillBand 8 none, Cond.fieldLink RX2 31 "TreemapLayout$Placer" "kidShares" "LTreemapLayout$Shares;", Cond.fieldLink RX2 79 "TreemapLayout$Shares" "pixels" "[I", Cond.methodLink RX2 86 yX4_clear, Cond.instanceMethod yX4_clear, Cond.selects RX4 yX4_clear yX4_clear, Cond.initialized RX4, Cond.code yX4_clear cX4_clear 1 none, Cond.fieldLink RX4 21 "TreemapLayout$Shares" "count" "I", Cond.methodLink RX2 97 yX4_add, Cond.instanceMethod yX4_add, Cond.selects RX4 yX4_add yX4_add, Cond.code yX4_add cX4_add 2 none, Cond.fieldLink RX4 9 "TreemapLayout$Shares" "partSizes" "[I", Cond.methodLink RX2 72 yX4_apportion, Cond.instanceMethod yX4_apportion, Cond.selects RX4 yX4_apportion yX4_apportion, Cond.code yX4_apportion cX4_apportion 6 none, Cond.fieldLink RX4 18 "TreemapLayout$Shares" "pixels" "[I"]
def wsX7_undo_r7 : List Cond := [Cond.fieldLink RX4 15 "TreemapLayout$Shares" "remainders" "[I", Cond.methodLink RX4 25 yX4_largestRemainder, Cond.instanceMethod yX4_largestRemainder, Cond.selects RX4 yX4_largestRemainder yX4_largestRemainder, Cond.code yX4_largestRemainder cX4_largestRemainder 3 (some .int), Cond.methodLink RX2 136 yX3_put, Cond.methodLink RX1 120 yX2_strip, Cond.instanceMethod yX2_strip, Cond.selects RX2 yX2_strip yX2_strip, Cond.code yX2_strip cX2_strip 5 none, Cond.fieldLink RX2 35 "TreemapLayout$Placer" "stripShares" "LTreemapLayout$Shares;", Cond.fieldLink RX2 76 "TreemapLayout$Shares" "count" "I", Cond.fieldLink RX2 38 "TreemapLayout$Placer" "stripEnds" "[I", Cond.methodLink RX2 69 yX2_splitIntoStrips, Cond.instanceMethod yX2_splitIntoStrips, Cond.selects RX2 yX2_splitIntoStrips yX2_splitIntoStrips, Cond.code yX2_splitIntoStrips cX2_splitIntoStrips 5 none, Cond.methodLink RX2 82 yX2_pixelsPerSize, Cond.instanceMethod yX2_pixelsPerSize, Cond.selects RX2 yX2_pixelsPerSize yX2_pixelsPerSize, Cond.code yX2_pixelsPerSize cX2_pixelsPerSize 3 (some .float), Cond.methodLink RX2 93 yX2_sumOfSizes, Cond.instanceMethod yX2_sumOfSizes, Cond.selects RX2 yX2_sumOfSizes yX2_sumOfSizes]
def wsX7_undo_r8 : List Cond := [Cond.code yX2_sumOfSizes cX2_sumOfSizes 5 (some .int), Cond.methodLink RX2 89 yX2_averageRatio, Cond.instanceMethod yX2_averageRatio, Cond.selects RX2 yX2_averageRatio yX2_averageRatio, Cond.code yX2_averageRatio cX2_averageRatio 7 (some .float), Cond.methodLink RX2 100 yX2_thicknessOf, Cond.static yX2_thicknessOf, Cond.code yX2_thicknessOf cX2_thicknessOf 3 (some .float), Cond.methodLink RX2 104 yX2_ratio, Cond.static yX2_ratio, Cond.code yX2_ratio cX2_ratio 6 (some .float), Cond.methodLink RX1 124 yX2_squarify, Cond.instanceMethod yX2_squarify, Cond.selects RX2 yX2_squarify yX2_squarify, Cond.code yX2_squarify cX2_squarify 6 none, Cond.methodLink RX2 108 yX2_sortByFallingSize, Cond.instanceMethod yX2_sortByFallingSize, Cond.selects RX2 yX2_sortByFallingSize yX2_sortByFallingSize, Cond.code yX2_sortByFallingSize cX2_sortByFallingSize 5 none, Cond.methodLink RX2 111 yX2_collapse, Cond.instanceMethod yX2_collapse, Cond.selects RX2 yX2_collapse yX2_collapse, Cond.code yX2_collapse cX2_collapse 4 none, Cond.methodLink RX2 115 yX2_endOfRow]
def wsX7_undo_r9 : List Cond := [Cond.instanceMethod yX2_endOfRow, Cond.selects RX2 yX2_endOfRow yX2_endOfRow, Cond.code yX2_endOfRow cX2_endOfRow 7 (some .int), Cond.methodLink RX2 123 Lib.Math.min.name, Cond.static Lib.Math.min.name, Cond.initialized "java/lang/Math", Cond.code Lib.Math.min.name Lib.Math.min.code 2 (some .int), Cond.methodLink RX2 128 yX2_worstRatio, Cond.instanceMethod yX2_worstRatio, Cond.selects RX2 yX2_worstRatio yX2_worstRatio, Cond.code yX2_worstRatio cX2_worstRatio 9 (some .float), Cond.methodLink RX2 119 yX2_cutBand, Cond.instanceMethod yX2_cutBand, Cond.selects RX2 yX2_cutBand yX2_cutBand, Cond.code yX2_cutBand cX2_cutBand 5 none, Cond.methodLink RX2 132 yX2_rowThickness, Cond.instanceMethod yX2_rowThickness, Cond.selects RX2 yX2_rowThickness yX2_rowThickness, Cond.code yX2_rowThickness cX2_rowThickness 5 (some .int)]
def wsX7_undo : List Cond := .code yX7_undo cX7_undo 1 (some .int) :: ((wsX7_undo_r1 ++ (wsX7_undo_r2 ++ (wsX7_undo_r3 ++ (wsX7_undo_r4 ++ (wsX7_undo_r5 ++ (wsX7_undo_r6 ++ (wsX7_undo_r7 ++ (wsX7_undo_r8 ++ wsX7_undo_r9)))))))) ++ wsX70 ++ wsX60 ++ wsX50 ++ wsX10 ++ wsX30 ++ wsX20 ++ wsX00 ++ wsX40)
def wsX7_errorCount : List Cond := .code yX7_errorCount cX7_errorCount 2 (some .int) :: ([.fieldLink RX7 158 "TreemapLayout" "invalidCalls" "I", .fieldLink RX7 161 "TreemapLayout" "rejectedCalls" "I", .fieldLink RX7 164 "TreemapLayout" "fullCalls" "I", .methodLink RX7 47 yX7_failInvalid, .instanceMethod yX7_failInvalid, .selects RX7 yX7_failInvalid yX7_failInvalid, .initialized RX7, .code yX7_failInvalid cX7_failInvalid 1 (some .int)] ++ wsX70)
def wsX7_mix : List Cond := .code yX7_mix cX7_mix 3 (some .long) :: ([.constantLong RX7 185 (31)])
def wsX7_mixNode : List Cond := .code yX7_mixNode cX7_mixNode 6 (some .long) :: ([.fieldLink RX7 10 "TreemapLayout" "state" "LTreemapLayout$State;", .fieldLink RX7 65 "TreemapLayout$State" "ownSizes" "[I", .fieldLink RX7 19 "TreemapLayout" "layout" "LTreemapLayout$Layout;", .fieldLink RX7 101 "TreemapLayout$Layout" "sizes" "[I", .fieldLink RX7 83 "TreemapLayout$State" "parents" "[I", .fieldLink RX7 107 "TreemapLayout$Layout" "rects" "LTreemapLayout$Rects;", .fieldLink RX7 111 "TreemapLayout$Rects" "lefts" "[I", .fieldLink RX7 116 "TreemapLayout$Rects" "tops" "[I", .fieldLink RX7 119 "TreemapLayout$Rects" "widths" "[I", .fieldLink RX7 122 "TreemapLayout$Rects" "heights" "[I", .methodLink RX7 169 yX7_mix, .static yX7_mix, .initialized RX7, .code yX7_mix cX7_mix 3 (some .long), .constantLong RX7 185 (31), .methodLink RX7 125 yX7_hiddenFlag, .instanceMethod yX7_hiddenFlag, .selects RX7 yX7_hiddenFlag yX7_hiddenFlag, .code yX7_hiddenFlag cX7_hiddenFlag 2 (some .int), .fieldLink RX7 187 "TreemapLayout$Layout" "hidden" "[Z"] ++ wsX70 ++ wsX50 ++ wsX10 ++ wsX30)
def wsX7_digest_r1 : List Cond := [Cond.constantLong RX7 167 (11759), Cond.fieldLink RX7 158 "TreemapLayout" "invalidCalls" "I", Cond.fieldLink RX7 161 "TreemapLayout" "rejectedCalls" "I", Cond.fieldLink RX7 164 "TreemapLayout" "fullCalls" "I", Cond.fieldLink RX7 26 "TreemapLayout" "saved" "LTreemapLayout$UndoStack;", Cond.fieldLink RX7 154 "TreemapLayout$UndoStack" "count" "I", Cond.fieldLink RX7 10 "TreemapLayout" "state" "LTreemapLayout$State;", Cond.fieldLink RX7 89 "TreemapLayout$State" "canvasWidth" "I", Cond.fieldLink RX7 92 "TreemapLayout$State" "canvasHeight" "I", Cond.fieldLink RX7 95 "TreemapLayout$State" "padding" "I", Cond.fieldLink RX7 98 "TreemapLayout$State" "mode" "I", Cond.fieldLink RX7 51 "TreemapLayout$State" "count" "I", Cond.methodLink RX7 169 yX7_mix, Cond.static yX7_mix, Cond.initialized RX7, Cond.code yX7_mix cX7_mix 3 (some .long), Cond.constantLong RX7 185 (31), Cond.methodLink RX7 173 yX7_mixNode, Cond.instanceMethod yX7_mixNode, Cond.selects RX7 yX7_mixNode yX7_mixNode, Cond.code yX7_mixNode cX7_mixNode 6 (some .long), Cond.fieldLink RX7 65 "TreemapLayout$State" "ownSizes" "[I", Cond.fieldLink RX7 19 "TreemapLayout" "layout" "LTreemapLayout$Layout;", Cond.fieldLink RX7 101 "TreemapLayout$Layout" "sizes" "[I"]
def wsX7_digest_r2 : List Cond := [Cond.fieldLink RX7 83 "TreemapLayout$State" "parents" "[I", Cond.fieldLink RX7 107 "TreemapLayout$Layout" "rects" "LTreemapLayout$Rects;", Cond.fieldLink RX7 111 "TreemapLayout$Rects" "lefts" "[I", Cond.fieldLink RX7 116 "TreemapLayout$Rects" "tops" "[I", Cond.fieldLink RX7 119 "TreemapLayout$Rects" "widths" "[I", Cond.fieldLink RX7 122 "TreemapLayout$Rects" "heights" "[I", Cond.methodLink RX7 125 yX7_hiddenFlag, Cond.instanceMethod yX7_hiddenFlag, Cond.selects RX7 yX7_hiddenFlag yX7_hiddenFlag, Cond.code yX7_hiddenFlag cX7_hiddenFlag 2 (some .int), Cond.fieldLink RX7 187 "TreemapLayout$Layout" "hidden" "[Z", Cond.methodLink RX7 176 yX7_leafPixels, Cond.instanceMethod yX7_leafPixels, Cond.selects RX7 yX7_leafPixels yX7_leafPixels, Cond.code yX7_leafPixels cX7_leafPixels 3 (some .int), Cond.methodLink RX7 69 yX1_isLeaf, Cond.instanceMethod yX1_isLeaf, Cond.selects RX1 yX1_isLeaf yX1_isLeaf, Cond.initialized RX1, Cond.code yX1_isLeaf cX1_isLeaf 2 (some .boolean), Cond.fieldLink RX1 35 "TreemapLayout$Layout" "childCounts" "[I", Cond.methodLink RX7 133 yX3_area, Cond.instanceMethod yX3_area, Cond.selects RX3 yX3_area yX3_area]
def wsX7_digest_r3 : List Cond := [Cond.initialized RX3, Cond.code yX3_area cX3_area 2 (some .int), Cond.fieldLink RX3 18 "TreemapLayout$Rects" "widths" "[I", Cond.fieldLink RX3 21 "TreemapLayout$Rects" "heights" "[I", Cond.methodLink RX7 179 yX7_worstAspect, Cond.instanceMethod yX7_worstAspect, Cond.selects RX7 yX7_worstAspect yX7_worstAspect, Cond.code yX7_worstAspect cX7_worstAspect 4 (some .int), Cond.methodLink RX7 136 yX1_isLeafWithArea, Cond.instanceMethod yX1_isLeafWithArea, Cond.selects RX1 yX1_isLeafWithArea yX1_isLeafWithArea, Cond.code yX1_isLeafWithArea cX1_isLeafWithArea 2 (some .boolean), Cond.fieldLink RX1 25 "TreemapLayout$Layout" "rects" "LTreemapLayout$Rects;", Cond.methodLink RX1 45 yX1_isLeaf, Cond.methodLink RX1 49 yX3_area, Cond.methodLink RX7 139 yX3_aspect, Cond.instanceMethod yX3_aspect, Cond.selects RX3 yX3_aspect yX3_aspect, Cond.code yX3_aspect cX3_aspect 4 (some .float), Cond.methodLink RX3 24 Lib.Math.max.name, Cond.static Lib.Math.max.name, Cond.initialized "java/lang/Math", Cond.code Lib.Math.max.name Lib.Math.max.code 2 (some .int), Cond.methodLink RX3 30 Lib.Math.min.name]
def wsX7_digest_r4 : List Cond := [Cond.static Lib.Math.min.name, Cond.code Lib.Math.min.name Lib.Math.min.code 2 (some .int), Cond.methodLink RX7 143 yX7_floatBits, Cond.static yX7_floatBits, Cond.code yX7_floatBits cX7_floatBits 4 (some .int), Cond.constantFloat RX7 191 (1258291200), Cond.constant RX7 192 (8388608), Cond.methodLink RX7 182 yX7_averageAspect, Cond.instanceMethod yX7_averageAspect, Cond.selects RX7 yX7_averageAspect yX7_averageAspect, Cond.code yX7_averageAspect cX7_averageAspect 4 (some .int)]
def wsX7_digest : List Cond := .code yX7_digest cX7_digest 4 (some .long) :: ((wsX7_digest_r1 ++ (wsX7_digest_r2 ++ (wsX7_digest_r3 ++ wsX7_digest_r4))) ++ wsX70 ++ wsX60 ++ wsX50 ++ wsX10 ++ wsX30)
def wsX8_init : List Cond := .code yX8_init cX8_init 1 none :: ([.methodLink RX8 1 objectInit, .instanceMethod objectInit, .code objectInit ⟨#[0xb1]⟩ 1 none, .arrayClass .int, .fieldLink RX8 7 "TreemapLayoutModel" "now" "[I", .fieldLink RX8 13 "TreemapLayoutModel" "past" "[I", .fieldLink RX8 16 "TreemapLayoutModel" "errors" "[I", .fieldLink RX8 19 "TreemapLayoutModel" "sizes" "[I", .fieldLink RX8 22 "TreemapLayoutModel" "lengths" "[I", .fieldLink RX8 25 "TreemapLayoutModel" "xs" "[I", .fieldLink RX8 28 "TreemapLayoutModel" "ys" "[I", .fieldLink RX8 31 "TreemapLayoutModel" "wides" "[I", .fieldLink RX8 34 "TreemapLayoutModel" "highs" "[I", .arrayClass .boolean, .fieldLink RX8 37 "TreemapLayoutModel" "hidden" "[Z", .fieldLink RX8 41 "TreemapLayoutModel" "allSizes" "[I", .fieldLink RX8 44 "TreemapLayoutModel" "children" "[I", .fieldLink RX8 47 "TreemapLayoutModel" "strips" "[I", .fieldLink RX8 50 "TreemapLayoutModel" "heights" "[I", .fieldLink RX8 53 "TreemapLayoutModel" "before" "[I"] ++ wsX80)
def wsX8_within : List Cond := .code yX8_within cX8_within 3 (some .boolean) :: ([])
def wsX8_fails : List Cond := .code yX8_fails cX8_fails 2 (some .int) :: ([.fieldLink RX8 16 "TreemapLayoutModel" "errors" "[I"] ++ wsX80)
def wsX8_isNode : List Cond := .code yX8_isNode cX8_isNode 2 (some .boolean) :: ([.fieldLink RX8 7 "TreemapLayoutModel" "now" "[I", .methodLink RX8 56 yX8_within, .static yX8_within, .initialized RX8, .code yX8_within cX8_within 3 (some .boolean)] ++ wsX80)
def wsX8_saves : List Cond := .code yX8_saves cX8_saves 2 none :: ([.fieldLink RX8 60 "TreemapLayoutModel" "saved" "I", .fieldLink RX8 13 "TreemapLayoutModel" "past" "[I", .fieldLink RX8 7 "TreemapLayoutModel" "now" "[I"] ++ wsX80)
def wsX8_undo : List Cond := .code yX8_undo cX8_undo 2 (some .int) :: ([.fieldLink RX8 60 "TreemapLayoutModel" "saved" "I", .fieldLink RX8 7 "TreemapLayoutModel" "now" "[I", .fieldLink RX8 13 "TreemapLayoutModel" "past" "[I", .methodLink RX8 64 yX8_fails, .instanceMethod yX8_fails, .selects RX8 yX8_fails yX8_fails, .initialized RX8, .code yX8_fails cX8_fails 2 (some .int), .fieldLink RX8 16 "TreemapLayoutModel" "errors" "[I"] ++ wsX80)
def wsX8_childMany : List Cond := .code yX8_childMany cX8_childMany 4 (some .int) :: ([.fieldLink RX8 7 "TreemapLayoutModel" "now" "[I"] ++ wsX80)
def wsX8_isUnder : List Cond := .code yX8_isUnder cX8_isUnder 4 (some .boolean) :: ([.fieldLink RX8 7 "TreemapLayoutModel" "now" "[I"] ++ wsX80)
def wsX8_sizeOf : List Cond := .code yX8_sizeOf cX8_sizeOf 4 (some .int) :: ([.fieldLink RX8 7 "TreemapLayoutModel" "now" "[I", .methodLink RX8 68 yX8_childMany, .instanceMethod yX8_childMany, .selects RX8 yX8_childMany yX8_childMany, .initialized RX8, .code yX8_childMany cX8_childMany 4 (some .int), .methodLink RX8 71 yX8_isUnder, .instanceMethod yX8_isUnder, .selects RX8 yX8_isUnder yX8_isUnder, .code yX8_isUnder cX8_isUnder 4 (some .boolean)] ++ wsX80)
def wsX8_depthOf : List Cond := .code yX8_depthOf cX8_depthOf 4 (some .int) :: ([.fieldLink RX8 7 "TreemapLayoutModel" "now" "[I"] ++ wsX80)
def wsX8_addNode : List Cond := .code yX8_addNode cX8_addNode 3 (some .int) :: ([.fieldLink RX8 7 "TreemapLayoutModel" "now" "[I", .methodLink RX8 75 yX8_isNode, .instanceMethod yX8_isNode, .selects RX8 yX8_isNode yX8_isNode, .initialized RX8, .code yX8_isNode cX8_isNode 2 (some .boolean), .methodLink RX8 56 yX8_within, .static yX8_within, .code yX8_within cX8_within 3 (some .boolean), .methodLink RX8 64 yX8_fails, .instanceMethod yX8_fails, .selects RX8 yX8_fails yX8_fails, .code yX8_fails cX8_fails 2 (some .int), .fieldLink RX8 16 "TreemapLayoutModel" "errors" "[I", .methodLink RX8 79 yX8_saves, .instanceMethod yX8_saves, .selects RX8 yX8_saves yX8_saves, .code yX8_saves cX8_saves 2 none, .fieldLink RX8 60 "TreemapLayoutModel" "saved" "I", .fieldLink RX8 13 "TreemapLayoutModel" "past" "[I"] ++ wsX80)
def wsX8_changes : List Cond := .code yX8_changes cX8_changes 4 (some .int) :: ([.fieldLink RX8 7 "TreemapLayoutModel" "now" "[I", .methodLink RX8 79 yX8_saves, .instanceMethod yX8_saves, .selects RX8 yX8_saves yX8_saves, .initialized RX8, .code yX8_saves cX8_saves 2 none, .fieldLink RX8 60 "TreemapLayoutModel" "saved" "I", .fieldLink RX8 13 "TreemapLayoutModel" "past" "[I"] ++ wsX80)
def wsX8_setSize : List Cond := .code yX8_setSize cX8_setSize 3 (some .int) :: ([.methodLink RX8 75 yX8_isNode, .instanceMethod yX8_isNode, .selects RX8 yX8_isNode yX8_isNode, .initialized RX8, .code yX8_isNode cX8_isNode 2 (some .boolean), .fieldLink RX8 7 "TreemapLayoutModel" "now" "[I", .methodLink RX8 56 yX8_within, .static yX8_within, .code yX8_within cX8_within 3 (some .boolean), .methodLink RX8 82 yX8_changes, .instanceMethod yX8_changes, .selects RX8 yX8_changes yX8_changes, .code yX8_changes cX8_changes 4 (some .int), .methodLink RX8 79 yX8_saves, .instanceMethod yX8_saves, .selects RX8 yX8_saves yX8_saves, .code yX8_saves cX8_saves 2 none, .fieldLink RX8 60 "TreemapLayoutModel" "saved" "I", .fieldLink RX8 13 "TreemapLayoutModel" "past" "[I", .methodLink RX8 64 yX8_fails, .instanceMethod yX8_fails, .selects RX8 yX8_fails yX8_fails, .code yX8_fails cX8_fails 2 (some .int), .fieldLink RX8 16 "TreemapLayoutModel" "errors" "[I"] ++ wsX80)
def wsX8_removeLeaf : List Cond := .code yX8_removeLeaf cX8_removeLeaf 3 (some .int) :: ([.fieldLink RX8 7 "TreemapLayoutModel" "now" "[I", .methodLink RX8 75 yX8_isNode, .instanceMethod yX8_isNode, .selects RX8 yX8_isNode yX8_isNode, .initialized RX8, .code yX8_isNode cX8_isNode 2 (some .boolean), .methodLink RX8 56 yX8_within, .static yX8_within, .code yX8_within cX8_within 3 (some .boolean), .methodLink RX8 64 yX8_fails, .instanceMethod yX8_fails, .selects RX8 yX8_fails yX8_fails, .code yX8_fails cX8_fails 2 (some .int), .fieldLink RX8 16 "TreemapLayoutModel" "errors" "[I", .methodLink RX8 68 yX8_childMany, .instanceMethod yX8_childMany, .selects RX8 yX8_childMany yX8_childMany, .code yX8_childMany cX8_childMany 4 (some .int), .methodLink RX8 79 yX8_saves, .instanceMethod yX8_saves, .selects RX8 yX8_saves yX8_saves, .code yX8_saves cX8_saves 2 none, .fieldLink RX8 60 "TreemapLayoutModel" "saved" "I", .fieldLink RX8 13 "TreemapLayoutModel" "past" "[I"] ++ wsX80)
def wsX8_setParent_r1 : List Cond := [Cond.methodLink RX8 75 yX8_isNode, Cond.instanceMethod yX8_isNode, Cond.selects RX8 yX8_isNode yX8_isNode, Cond.initialized RX8, Cond.code yX8_isNode cX8_isNode 2 (some .boolean), Cond.fieldLink RX8 7 "TreemapLayoutModel" "now" "[I", Cond.methodLink RX8 56 yX8_within, Cond.static yX8_within, Cond.code yX8_within cX8_within 3 (some .boolean), Cond.methodLink RX8 64 yX8_fails, Cond.instanceMethod yX8_fails, Cond.selects RX8 yX8_fails yX8_fails, Cond.code yX8_fails cX8_fails 2 (some .int), Cond.fieldLink RX8 16 "TreemapLayoutModel" "errors" "[I", Cond.methodLink RX8 71 yX8_isUnder, Cond.instanceMethod yX8_isUnder, Cond.selects RX8 yX8_isUnder yX8_isUnder, Cond.code yX8_isUnder cX8_isUnder 4 (some .boolean), Cond.methodLink RX8 82 yX8_changes, Cond.instanceMethod yX8_changes, Cond.selects RX8 yX8_changes yX8_changes, Cond.code yX8_changes cX8_changes 4 (some .int), Cond.methodLink RX8 79 yX8_saves, Cond.instanceMethod yX8_saves]
def wsX8_setParent_r2 : List Cond := [Cond.selects RX8 yX8_saves yX8_saves, Cond.code yX8_saves cX8_saves 2 none, Cond.fieldLink RX8 60 "TreemapLayoutModel" "saved" "I", Cond.fieldLink RX8 13 "TreemapLayoutModel" "past" "[I"]
def wsX8_setParent : List Cond := .code yX8_setParent cX8_setParent 3 (some .int) :: ((wsX8_setParent_r1 ++ wsX8_setParent_r2) ++ wsX80)
def wsX8_setCanvas : List Cond := .code yX8_setCanvas cX8_setCanvas 4 (some .int) :: ([.fieldLink RX8 7 "TreemapLayoutModel" "now" "[I", .methodLink RX8 56 yX8_within, .static yX8_within, .initialized RX8, .code yX8_within cX8_within 3 (some .boolean), .methodLink RX8 64 yX8_fails, .instanceMethod yX8_fails, .selects RX8 yX8_fails yX8_fails, .code yX8_fails cX8_fails 2 (some .int), .fieldLink RX8 16 "TreemapLayoutModel" "errors" "[I", .methodLink RX8 79 yX8_saves, .instanceMethod yX8_saves, .selects RX8 yX8_saves yX8_saves, .code yX8_saves cX8_saves 2 none, .fieldLink RX8 60 "TreemapLayoutModel" "saved" "I", .fieldLink RX8 13 "TreemapLayoutModel" "past" "[I"] ++ wsX80)
def wsX8_setPadding : List Cond := .code yX8_setPadding cX8_setPadding 2 (some .int) :: ([.methodLink RX8 56 yX8_within, .static yX8_within, .initialized RX8, .code yX8_within cX8_within 3 (some .boolean), .methodLink RX8 82 yX8_changes, .instanceMethod yX8_changes, .selects RX8 yX8_changes yX8_changes, .code yX8_changes cX8_changes 4 (some .int), .fieldLink RX8 7 "TreemapLayoutModel" "now" "[I", .methodLink RX8 79 yX8_saves, .instanceMethod yX8_saves, .selects RX8 yX8_saves yX8_saves, .code yX8_saves cX8_saves 2 none, .fieldLink RX8 60 "TreemapLayoutModel" "saved" "I", .fieldLink RX8 13 "TreemapLayoutModel" "past" "[I", .methodLink RX8 64 yX8_fails, .instanceMethod yX8_fails, .selects RX8 yX8_fails yX8_fails, .code yX8_fails cX8_fails 2 (some .int), .fieldLink RX8 16 "TreemapLayoutModel" "errors" "[I"] ++ wsX80)
def wsX8_setMode : List Cond := .code yX8_setMode cX8_setMode 2 (some .int) :: ([.methodLink RX8 56 yX8_within, .static yX8_within, .initialized RX8, .code yX8_within cX8_within 3 (some .boolean), .methodLink RX8 82 yX8_changes, .instanceMethod yX8_changes, .selects RX8 yX8_changes yX8_changes, .code yX8_changes cX8_changes 4 (some .int), .fieldLink RX8 7 "TreemapLayoutModel" "now" "[I", .methodLink RX8 79 yX8_saves, .instanceMethod yX8_saves, .selects RX8 yX8_saves yX8_saves, .code yX8_saves cX8_saves 2 none, .fieldLink RX8 60 "TreemapLayoutModel" "saved" "I", .fieldLink RX8 13 "TreemapLayoutModel" "past" "[I", .methodLink RX8 64 yX8_fails, .instanceMethod yX8_fails, .selects RX8 yX8_fails yX8_fails, .code yX8_fails cX8_fails 2 (some .int), .fieldLink RX8 16 "TreemapLayoutModel" "errors" "[I"] ++ wsX80)
def wsX8_nodeCount : List Cond := .code yX8_nodeCount cX8_nodeCount 1 (some .int) :: ([.fieldLink RX8 7 "TreemapLayoutModel" "now" "[I"] ++ wsX80)
def wsX8_size_r1 : List Cond := [Cond.methodLink RX8 75 yX8_isNode, Cond.instanceMethod yX8_isNode, Cond.selects RX8 yX8_isNode yX8_isNode, Cond.initialized RX8, Cond.code yX8_isNode cX8_isNode 2 (some .boolean), Cond.fieldLink RX8 7 "TreemapLayoutModel" "now" "[I", Cond.methodLink RX8 56 yX8_within, Cond.static yX8_within, Cond.code yX8_within cX8_within 3 (some .boolean), Cond.methodLink RX8 86 yX8_sizeOf, Cond.instanceMethod yX8_sizeOf, Cond.selects RX8 yX8_sizeOf yX8_sizeOf, Cond.code yX8_sizeOf cX8_sizeOf 4 (some .int), Cond.methodLink RX8 68 yX8_childMany, Cond.instanceMethod yX8_childMany, Cond.selects RX8 yX8_childMany yX8_childMany, Cond.code yX8_childMany cX8_childMany 4 (some .int), Cond.methodLink RX8 71 yX8_isUnder, Cond.instanceMethod yX8_isUnder, Cond.selects RX8 yX8_isUnder yX8_isUnder, Cond.code yX8_isUnder cX8_isUnder 4 (some .boolean), Cond.methodLink RX8 64 yX8_fails, Cond.instanceMethod yX8_fails, Cond.selects RX8 yX8_fails yX8_fails]
def wsX8_size_r2 : List Cond := [Cond.code yX8_fails cX8_fails 2 (some .int), Cond.fieldLink RX8 16 "TreemapLayoutModel" "errors" "[I"]
def wsX8_size : List Cond := .code yX8_size cX8_size 2 (some .int) :: ((wsX8_size_r1 ++ wsX8_size_r2) ++ wsX80)
def wsX8_parent : List Cond := .code yX8_parent cX8_parent 2 (some .int) :: ([.fieldLink RX8 7 "TreemapLayoutModel" "now" "[I", .methodLink RX8 75 yX8_isNode, .instanceMethod yX8_isNode, .selects RX8 yX8_isNode yX8_isNode, .initialized RX8, .code yX8_isNode cX8_isNode 2 (some .boolean), .methodLink RX8 56 yX8_within, .static yX8_within, .code yX8_within cX8_within 3 (some .boolean), .methodLink RX8 64 yX8_fails, .instanceMethod yX8_fails, .selects RX8 yX8_fails yX8_fails, .code yX8_fails cX8_fails 2 (some .int), .fieldLink RX8 16 "TreemapLayoutModel" "errors" "[I"] ++ wsX80)
def wsX8_depth : List Cond := .code yX8_depth cX8_depth 2 (some .int) :: ([.methodLink RX8 75 yX8_isNode, .instanceMethod yX8_isNode, .selects RX8 yX8_isNode yX8_isNode, .initialized RX8, .code yX8_isNode cX8_isNode 2 (some .boolean), .fieldLink RX8 7 "TreemapLayoutModel" "now" "[I", .methodLink RX8 56 yX8_within, .static yX8_within, .code yX8_within cX8_within 3 (some .boolean), .methodLink RX8 89 yX8_depthOf, .instanceMethod yX8_depthOf, .selects RX8 yX8_depthOf yX8_depthOf, .code yX8_depthOf cX8_depthOf 4 (some .int), .methodLink RX8 64 yX8_fails, .instanceMethod yX8_fails, .selects RX8 yX8_fails yX8_fails, .code yX8_fails cX8_fails 2 (some .int), .fieldLink RX8 16 "TreemapLayoutModel" "errors" "[I"] ++ wsX80)
def wsX8_leaves : List Cond := .code yX8_leaves cX8_leaves 3 (some .int) :: ([.fieldLink RX8 7 "TreemapLayoutModel" "now" "[I", .methodLink RX8 68 yX8_childMany, .instanceMethod yX8_childMany, .selects RX8 yX8_childMany yX8_childMany, .initialized RX8, .code yX8_childMany cX8_childMany 4 (some .int)] ++ wsX80)
def wsX8_leafCount : List Cond := .code yX8_leafCount cX8_leafCount 1 (some .int) :: ([.methodLink RX8 92 yX8_leaves, .instanceMethod yX8_leaves, .selects RX8 yX8_leaves yX8_leaves, .initialized RX8, .code yX8_leaves cX8_leaves 3 (some .int), .fieldLink RX8 7 "TreemapLayoutModel" "now" "[I", .methodLink RX8 68 yX8_childMany, .instanceMethod yX8_childMany, .selects RX8 yX8_childMany yX8_childMany, .code yX8_childMany cX8_childMany 4 (some .int)] ++ wsX80)
def wsX8_parts : List Cond := .code yX8_parts cX8_parts 9 none :: ([.fieldLink RX8 19 "TreemapLayoutModel" "sizes" "[I", .fieldLink RX8 22 "TreemapLayoutModel" "lengths" "[I"] ++ wsX80)
def wsX8_puts : List Cond := .code yX8_puts cX8_puts 6 none :: ([.fieldLink RX8 25 "TreemapLayoutModel" "xs" "[I", .fieldLink RX8 28 "TreemapLayoutModel" "ys" "[I", .fieldLink RX8 31 "TreemapLayoutModel" "wides" "[I", .fieldLink RX8 34 "TreemapLayoutModel" "highs" "[I"] ++ wsX80)
def wsX8_laysChildren : List Cond := .code yX8_laysChildren cX8_laysChildren 3 none :: ([.fieldLink RX8 96 "TreemapLayoutModel" "many" "I", .fieldLink RX8 7 "TreemapLayoutModel" "now" "[I", .fieldLink RX8 44 "TreemapLayoutModel" "children" "[I"] ++ wsX80)
def wsX8_laysSizes : List Cond := .code yX8_laysSizes cX8_laysSizes 4 none :: ([.fieldLink RX8 19 "TreemapLayoutModel" "sizes" "[I", .fieldLink RX8 41 "TreemapLayoutModel" "allSizes" "[I", .fieldLink RX8 44 "TreemapLayoutModel" "children" "[I"] ++ wsX80)
def wsX8_sumOf : List Cond := .code yX8_sumOf cX8_sumOf 5 (some .int) :: ([.fieldLink RX8 41 "TreemapLayoutModel" "allSizes" "[I", .fieldLink RX8 44 "TreemapLayoutModel" "children" "[I"] ++ wsX80)
def wsX8_laysRow : List Cond := .code yX8_laysRow cX8_laysRow 11 none :: ([.fieldLink RX8 22 "TreemapLayoutModel" "lengths" "[I", .fieldLink RX8 44 "TreemapLayoutModel" "children" "[I", .methodLink RX8 99 yX8_laysSizes, .instanceMethod yX8_laysSizes, .selects RX8 yX8_laysSizes yX8_laysSizes, .initialized RX8, .code yX8_laysSizes cX8_laysSizes 4 none, .fieldLink RX8 19 "TreemapLayoutModel" "sizes" "[I", .fieldLink RX8 41 "TreemapLayoutModel" "allSizes" "[I", .methodLink RX8 103 yX8_parts, .instanceMethod yX8_parts, .selects RX8 yX8_parts yX8_parts, .code yX8_parts cX8_parts 9 none, .methodLink RX8 106 yX8_puts, .instanceMethod yX8_puts, .selects RX8 yX8_puts yX8_puts, .code yX8_puts cX8_puts 6 none, .fieldLink RX8 25 "TreemapLayoutModel" "xs" "[I", .fieldLink RX8 28 "TreemapLayoutModel" "ys" "[I", .fieldLink RX8 31 "TreemapLayoutModel" "wides" "[I", .fieldLink RX8 34 "TreemapLayoutModel" "highs" "[I"] ++ wsX80)
def wsX8_aspect : List Cond := .code yX8_aspect cX8_aspect 10 (some .float) :: ([.fieldLink RX8 41 "TreemapLayoutModel" "allSizes" "[I", .methodLink RX8 110 yX8_sumOf, .instanceMethod yX8_sumOf, .selects RX8 yX8_sumOf yX8_sumOf, .initialized RX8, .code yX8_sumOf cX8_sumOf 5 (some .int), .fieldLink RX8 44 "TreemapLayoutModel" "children" "[I"] ++ wsX80)
def wsX8_average : List Cond := .code yX8_average cX8_average 7 (some .float) :: ([.fieldLink RX8 44 "TreemapLayoutModel" "children" "[I", .methodLink RX8 113 yX8_aspect, .instanceMethod yX8_aspect, .selects RX8 yX8_aspect yX8_aspect, .initialized RX8, .code yX8_aspect cX8_aspect 10 (some .float), .fieldLink RX8 41 "TreemapLayoutModel" "allSizes" "[I", .methodLink RX8 110 yX8_sumOf, .instanceMethod yX8_sumOf, .selects RX8 yX8_sumOf yX8_sumOf, .code yX8_sumOf cX8_sumOf 5 (some .int)] ++ wsX80)
def wsX8_worst : List Cond := .code yX8_worst cX8_worst 8 (some .float) :: ([.fieldLink RX8 44 "TreemapLayoutModel" "children" "[I", .methodLink RX8 113 yX8_aspect, .instanceMethod yX8_aspect, .selects RX8 yX8_aspect yX8_aspect, .initialized RX8, .code yX8_aspect cX8_aspect 10 (some .float), .fieldLink RX8 41 "TreemapLayoutModel" "allSizes" "[I", .methodLink RX8 110 yX8_sumOf, .instanceMethod yX8_sumOf, .selects RX8 yX8_sumOf yX8_sumOf, .code yX8_sumOf cX8_sumOf 5 (some .int)] ++ wsX80)
def wsX8_laysStrips_r1 : List Cond := [Cond.fieldLink RX8 47 "TreemapLayoutModel" "strips" "[I", Cond.fieldLink RX8 96 "TreemapLayoutModel" "many" "I", Cond.fieldLink RX8 19 "TreemapLayoutModel" "sizes" "[I", Cond.fieldLink RX8 50 "TreemapLayoutModel" "heights" "[I", Cond.fieldLink RX8 22 "TreemapLayoutModel" "lengths" "[I", Cond.methodLink RX8 117 yX8_average, Cond.instanceMethod yX8_average, Cond.selects RX8 yX8_average yX8_average, Cond.initialized RX8, Cond.code yX8_average cX8_average 7 (some .float), Cond.fieldLink RX8 44 "TreemapLayoutModel" "children" "[I", Cond.methodLink RX8 113 yX8_aspect, Cond.instanceMethod yX8_aspect, Cond.selects RX8 yX8_aspect yX8_aspect, Cond.code yX8_aspect cX8_aspect 10 (some .float), Cond.fieldLink RX8 41 "TreemapLayoutModel" "allSizes" "[I", Cond.methodLink RX8 110 yX8_sumOf, Cond.instanceMethod yX8_sumOf, Cond.selects RX8 yX8_sumOf yX8_sumOf, Cond.code yX8_sumOf cX8_sumOf 5 (some .int), Cond.methodLink RX8 103 yX8_parts, Cond.instanceMethod yX8_parts, Cond.selects RX8 yX8_parts yX8_parts, Cond.code yX8_parts cX8_parts 9 none]
def wsX8_laysStrips_r2 : List Cond := [Cond.methodLink RX8 121 yX8_laysRow, Cond.instanceMethod yX8_laysRow, Cond.selects RX8 yX8_laysRow yX8_laysRow, Cond.code yX8_laysRow cX8_laysRow 11 none, Cond.methodLink RX8 99 yX8_laysSizes, Cond.instanceMethod yX8_laysSizes, Cond.selects RX8 yX8_laysSizes yX8_laysSizes, Cond.code yX8_laysSizes cX8_laysSizes 4 none, Cond.methodLink RX8 106 yX8_puts, Cond.instanceMethod yX8_puts, Cond.selects RX8 yX8_puts yX8_puts, Cond.code yX8_puts cX8_puts 6 none, Cond.fieldLink RX8 25 "TreemapLayoutModel" "xs" "[I", Cond.fieldLink RX8 28 "TreemapLayoutModel" "ys" "[I", Cond.fieldLink RX8 31 "TreemapLayoutModel" "wides" "[I", Cond.fieldLink RX8 34 "TreemapLayoutModel" "highs" "[I"]
def wsX8_laysStrips : List Cond := .code yX8_laysStrips cX8_laysStrips 10 none :: ((wsX8_laysStrips_r1 ++ wsX8_laysStrips_r2) ++ wsX80)
def wsX8_sorts : List Cond := .code yX8_sorts cX8_sorts 4 none :: ([.fieldLink RX8 96 "TreemapLayoutModel" "many" "I", .fieldLink RX8 44 "TreemapLayoutModel" "children" "[I", .fieldLink RX8 41 "TreemapLayoutModel" "allSizes" "[I"] ++ wsX80)
def wsX8_rowOf : List Cond := .code yX8_rowOf cX8_rowOf 5 (some .int) :: ([.fieldLink RX8 96 "TreemapLayoutModel" "many" "I", .methodLink RX8 125 yX8_worst, .instanceMethod yX8_worst, .selects RX8 yX8_worst yX8_worst, .initialized RX8, .code yX8_worst cX8_worst 8 (some .float), .fieldLink RX8 44 "TreemapLayoutModel" "children" "[I", .methodLink RX8 113 yX8_aspect, .instanceMethod yX8_aspect, .selects RX8 yX8_aspect yX8_aspect, .code yX8_aspect cX8_aspect 10 (some .float), .fieldLink RX8 41 "TreemapLayoutModel" "allSizes" "[I", .methodLink RX8 110 yX8_sumOf, .instanceMethod yX8_sumOf, .selects RX8 yX8_sumOf yX8_sumOf, .code yX8_sumOf cX8_sumOf 5 (some .int)] ++ wsX80)
def wsX8_laysSquares_r1 : List Cond := [Cond.fieldLink RX8 96 "TreemapLayoutModel" "many" "I", Cond.fieldLink RX8 44 "TreemapLayoutModel" "children" "[I", Cond.methodLink RX8 128 yX8_sorts, Cond.instanceMethod yX8_sorts, Cond.selects RX8 yX8_sorts yX8_sorts, Cond.initialized RX8, Cond.code yX8_sorts cX8_sorts 4 none, Cond.fieldLink RX8 41 "TreemapLayoutModel" "allSizes" "[I", Cond.methodLink RX8 106 yX8_puts, Cond.instanceMethod yX8_puts, Cond.selects RX8 yX8_puts yX8_puts, Cond.code yX8_puts cX8_puts 6 none, Cond.fieldLink RX8 25 "TreemapLayoutModel" "xs" "[I", Cond.fieldLink RX8 28 "TreemapLayoutModel" "ys" "[I", Cond.fieldLink RX8 31 "TreemapLayoutModel" "wides" "[I", Cond.fieldLink RX8 34 "TreemapLayoutModel" "highs" "[I", Cond.methodLink RX8 110 yX8_sumOf, Cond.instanceMethod yX8_sumOf, Cond.selects RX8 yX8_sumOf yX8_sumOf, Cond.code yX8_sumOf cX8_sumOf 5 (some .int), Cond.methodLink RX8 131 yX8_rowOf, Cond.instanceMethod yX8_rowOf, Cond.selects RX8 yX8_rowOf yX8_rowOf, Cond.code yX8_rowOf cX8_rowOf 5 (some .int)]
def wsX8_laysSquares_r2 : List Cond := [Cond.methodLink RX8 125 yX8_worst, Cond.instanceMethod yX8_worst, Cond.selects RX8 yX8_worst yX8_worst, Cond.code yX8_worst cX8_worst 8 (some .float), Cond.methodLink RX8 113 yX8_aspect, Cond.instanceMethod yX8_aspect, Cond.selects RX8 yX8_aspect yX8_aspect, Cond.code yX8_aspect cX8_aspect 10 (some .float), Cond.methodLink RX8 121 yX8_laysRow, Cond.instanceMethod yX8_laysRow, Cond.selects RX8 yX8_laysRow yX8_laysRow, Cond.code yX8_laysRow cX8_laysRow 11 none, Cond.fieldLink RX8 22 "TreemapLayoutModel" "lengths" "[I", Cond.methodLink RX8 99 yX8_laysSizes, Cond.instanceMethod yX8_laysSizes, Cond.selects RX8 yX8_laysSizes yX8_laysSizes, Cond.code yX8_laysSizes cX8_laysSizes 4 none, Cond.fieldLink RX8 19 "TreemapLayoutModel" "sizes" "[I", Cond.methodLink RX8 103 yX8_parts, Cond.instanceMethod yX8_parts, Cond.selects RX8 yX8_parts yX8_parts, Cond.code yX8_parts cX8_parts 9 none]
def wsX8_laysSquares : List Cond := .code yX8_laysSquares cX8_laysSquares 16 none :: ((wsX8_laysSquares_r1 ++ wsX8_laysSquares_r2) ++ wsX80)
def wsX8_laysUnder_r1 : List Cond := [Cond.fieldLink RX8 25 "TreemapLayoutModel" "xs" "[I", Cond.fieldLink RX8 7 "TreemapLayoutModel" "now" "[I", Cond.fieldLink RX8 28 "TreemapLayoutModel" "ys" "[I", Cond.fieldLink RX8 31 "TreemapLayoutModel" "wides" "[I", Cond.fieldLink RX8 34 "TreemapLayoutModel" "highs" "[I", Cond.fieldLink RX8 37 "TreemapLayoutModel" "hidden" "[Z", Cond.fieldLink RX8 96 "TreemapLayoutModel" "many" "I", Cond.fieldLink RX8 44 "TreemapLayoutModel" "children" "[I", Cond.fieldLink RX8 41 "TreemapLayoutModel" "allSizes" "[I", Cond.methodLink RX8 135 yX8_laysChildren, Cond.instanceMethod yX8_laysChildren, Cond.selects RX8 yX8_laysChildren yX8_laysChildren, Cond.initialized RX8, Cond.code yX8_laysChildren cX8_laysChildren 3 none, Cond.methodLink RX8 106 yX8_puts, Cond.instanceMethod yX8_puts, Cond.selects RX8 yX8_puts yX8_puts, Cond.code yX8_puts cX8_puts 6 none, Cond.methodLink RX8 121 yX8_laysRow, Cond.instanceMethod yX8_laysRow, Cond.selects RX8 yX8_laysRow yX8_laysRow, Cond.code yX8_laysRow cX8_laysRow 11 none, Cond.fieldLink RX8 22 "TreemapLayoutModel" "lengths" "[I", Cond.methodLink RX8 99 yX8_laysSizes]
def wsX8_laysUnder_r2 : List Cond := [Cond.instanceMethod yX8_laysSizes, Cond.selects RX8 yX8_laysSizes yX8_laysSizes, Cond.code yX8_laysSizes cX8_laysSizes 4 none, Cond.fieldLink RX8 19 "TreemapLayoutModel" "sizes" "[I", Cond.methodLink RX8 103 yX8_parts, Cond.instanceMethod yX8_parts, Cond.selects RX8 yX8_parts yX8_parts, Cond.code yX8_parts cX8_parts 9 none, Cond.methodLink RX8 139 yX8_laysStrips, Cond.instanceMethod yX8_laysStrips, Cond.selects RX8 yX8_laysStrips yX8_laysStrips, Cond.code yX8_laysStrips cX8_laysStrips 10 none, Cond.fieldLink RX8 47 "TreemapLayoutModel" "strips" "[I", Cond.fieldLink RX8 50 "TreemapLayoutModel" "heights" "[I", Cond.methodLink RX8 117 yX8_average, Cond.instanceMethod yX8_average, Cond.selects RX8 yX8_average yX8_average, Cond.code yX8_average cX8_average 7 (some .float), Cond.methodLink RX8 113 yX8_aspect, Cond.instanceMethod yX8_aspect, Cond.selects RX8 yX8_aspect yX8_aspect, Cond.code yX8_aspect cX8_aspect 10 (some .float), Cond.methodLink RX8 110 yX8_sumOf, Cond.instanceMethod yX8_sumOf]
def wsX8_laysUnder_r3 : List Cond := [Cond.selects RX8 yX8_sumOf yX8_sumOf, Cond.code yX8_sumOf cX8_sumOf 5 (some .int), Cond.methodLink RX8 142 yX8_laysSquares, Cond.instanceMethod yX8_laysSquares, Cond.selects RX8 yX8_laysSquares yX8_laysSquares, Cond.code yX8_laysSquares cX8_laysSquares 16 none, Cond.methodLink RX8 128 yX8_sorts, Cond.instanceMethod yX8_sorts, Cond.selects RX8 yX8_sorts yX8_sorts, Cond.code yX8_sorts cX8_sorts 4 none, Cond.methodLink RX8 131 yX8_rowOf, Cond.instanceMethod yX8_rowOf, Cond.selects RX8 yX8_rowOf yX8_rowOf, Cond.code yX8_rowOf cX8_rowOf 5 (some .int), Cond.methodLink RX8 125 yX8_worst, Cond.instanceMethod yX8_worst, Cond.selects RX8 yX8_worst yX8_worst, Cond.code yX8_worst cX8_worst 8 (some .float)]
def wsX8_laysUnder : List Cond := .code yX8_laysUnder cX8_laysUnder 8 none :: ((wsX8_laysUnder_r1 ++ (wsX8_laysUnder_r2 ++ wsX8_laysUnder_r3)) ++ wsX80)
def wsX8_lays_r1 : List Cond := [Cond.fieldLink RX8 7 "TreemapLayoutModel" "now" "[I", Cond.fieldLink RX8 41 "TreemapLayoutModel" "allSizes" "[I", Cond.fieldLink RX8 37 "TreemapLayoutModel" "hidden" "[Z", Cond.methodLink RX8 86 yX8_sizeOf, Cond.instanceMethod yX8_sizeOf, Cond.selects RX8 yX8_sizeOf yX8_sizeOf, Cond.initialized RX8, Cond.code yX8_sizeOf cX8_sizeOf 4 (some .int), Cond.methodLink RX8 68 yX8_childMany, Cond.instanceMethod yX8_childMany, Cond.selects RX8 yX8_childMany yX8_childMany, Cond.code yX8_childMany cX8_childMany 4 (some .int), Cond.methodLink RX8 71 yX8_isUnder, Cond.instanceMethod yX8_isUnder, Cond.selects RX8 yX8_isUnder yX8_isUnder, Cond.code yX8_isUnder cX8_isUnder 4 (some .boolean), Cond.methodLink RX8 106 yX8_puts, Cond.instanceMethod yX8_puts, Cond.selects RX8 yX8_puts yX8_puts, Cond.code yX8_puts cX8_puts 6 none, Cond.fieldLink RX8 25 "TreemapLayoutModel" "xs" "[I", Cond.fieldLink RX8 28 "TreemapLayoutModel" "ys" "[I", Cond.fieldLink RX8 31 "TreemapLayoutModel" "wides" "[I", Cond.fieldLink RX8 34 "TreemapLayoutModel" "highs" "[I"]
def wsX8_lays_r2 : List Cond := [Cond.methodLink RX8 89 yX8_depthOf, Cond.instanceMethod yX8_depthOf, Cond.selects RX8 yX8_depthOf yX8_depthOf, Cond.code yX8_depthOf cX8_depthOf 4 (some .int), Cond.methodLink RX8 146 yX8_laysUnder, Cond.instanceMethod yX8_laysUnder, Cond.selects RX8 yX8_laysUnder yX8_laysUnder, Cond.code yX8_laysUnder cX8_laysUnder 8 none, Cond.fieldLink RX8 96 "TreemapLayoutModel" "many" "I", Cond.fieldLink RX8 44 "TreemapLayoutModel" "children" "[I", Cond.methodLink RX8 135 yX8_laysChildren, Cond.instanceMethod yX8_laysChildren, Cond.selects RX8 yX8_laysChildren yX8_laysChildren, Cond.code yX8_laysChildren cX8_laysChildren 3 none, Cond.methodLink RX8 121 yX8_laysRow, Cond.instanceMethod yX8_laysRow, Cond.selects RX8 yX8_laysRow yX8_laysRow, Cond.code yX8_laysRow cX8_laysRow 11 none, Cond.fieldLink RX8 22 "TreemapLayoutModel" "lengths" "[I", Cond.methodLink RX8 99 yX8_laysSizes, Cond.instanceMethod yX8_laysSizes, Cond.selects RX8 yX8_laysSizes yX8_laysSizes, Cond.code yX8_laysSizes cX8_laysSizes 4 none, Cond.fieldLink RX8 19 "TreemapLayoutModel" "sizes" "[I"]
def wsX8_lays_r3 : List Cond := [Cond.methodLink RX8 103 yX8_parts, Cond.instanceMethod yX8_parts, Cond.selects RX8 yX8_parts yX8_parts, Cond.code yX8_parts cX8_parts 9 none, Cond.methodLink RX8 139 yX8_laysStrips, Cond.instanceMethod yX8_laysStrips, Cond.selects RX8 yX8_laysStrips yX8_laysStrips, Cond.code yX8_laysStrips cX8_laysStrips 10 none, Cond.fieldLink RX8 47 "TreemapLayoutModel" "strips" "[I", Cond.fieldLink RX8 50 "TreemapLayoutModel" "heights" "[I", Cond.methodLink RX8 117 yX8_average, Cond.instanceMethod yX8_average, Cond.selects RX8 yX8_average yX8_average, Cond.code yX8_average cX8_average 7 (some .float), Cond.methodLink RX8 113 yX8_aspect, Cond.instanceMethod yX8_aspect, Cond.selects RX8 yX8_aspect yX8_aspect, Cond.code yX8_aspect cX8_aspect 10 (some .float), Cond.methodLink RX8 110 yX8_sumOf, Cond.instanceMethod yX8_sumOf, Cond.selects RX8 yX8_sumOf yX8_sumOf, Cond.code yX8_sumOf cX8_sumOf 5 (some .int), Cond.methodLink RX8 142 yX8_laysSquares, Cond.instanceMethod yX8_laysSquares]
def wsX8_lays_r4 : List Cond := [Cond.selects RX8 yX8_laysSquares yX8_laysSquares, Cond.code yX8_laysSquares cX8_laysSquares 16 none, Cond.methodLink RX8 128 yX8_sorts, Cond.instanceMethod yX8_sorts, Cond.selects RX8 yX8_sorts yX8_sorts, Cond.code yX8_sorts cX8_sorts 4 none, Cond.methodLink RX8 131 yX8_rowOf, Cond.instanceMethod yX8_rowOf, Cond.selects RX8 yX8_rowOf yX8_rowOf, Cond.code yX8_rowOf cX8_rowOf 5 (some .int), Cond.methodLink RX8 125 yX8_worst, Cond.instanceMethod yX8_worst, Cond.selects RX8 yX8_worst yX8_worst, Cond.code yX8_worst cX8_worst 8 (some .float)]
def wsX8_lays : List Cond := .code yX8_lays cX8_lays 3 none :: ((wsX8_lays_r1 ++ (wsX8_lays_r2 ++ (wsX8_lays_r3 ++ wsX8_lays_r4))) ++ wsX80)
def wsX8_x_r1 : List Cond := [Cond.fieldLink RX8 25 "TreemapLayoutModel" "xs" "[I", Cond.methodLink RX8 149 yX8_lays, Cond.instanceMethod yX8_lays, Cond.selects RX8 yX8_lays yX8_lays, Cond.initialized RX8, Cond.code yX8_lays cX8_lays 3 none, Cond.fieldLink RX8 7 "TreemapLayoutModel" "now" "[I", Cond.fieldLink RX8 41 "TreemapLayoutModel" "allSizes" "[I", Cond.fieldLink RX8 37 "TreemapLayoutModel" "hidden" "[Z", Cond.methodLink RX8 86 yX8_sizeOf, Cond.instanceMethod yX8_sizeOf, Cond.selects RX8 yX8_sizeOf yX8_sizeOf, Cond.code yX8_sizeOf cX8_sizeOf 4 (some .int), Cond.methodLink RX8 68 yX8_childMany, Cond.instanceMethod yX8_childMany, Cond.selects RX8 yX8_childMany yX8_childMany, Cond.code yX8_childMany cX8_childMany 4 (some .int), Cond.methodLink RX8 71 yX8_isUnder, Cond.instanceMethod yX8_isUnder, Cond.selects RX8 yX8_isUnder yX8_isUnder, Cond.code yX8_isUnder cX8_isUnder 4 (some .boolean), Cond.methodLink RX8 106 yX8_puts, Cond.instanceMethod yX8_puts, Cond.selects RX8 yX8_puts yX8_puts]
def wsX8_x_r2 : List Cond := [Cond.code yX8_puts cX8_puts 6 none, Cond.fieldLink RX8 28 "TreemapLayoutModel" "ys" "[I", Cond.fieldLink RX8 31 "TreemapLayoutModel" "wides" "[I", Cond.fieldLink RX8 34 "TreemapLayoutModel" "highs" "[I", Cond.methodLink RX8 89 yX8_depthOf, Cond.instanceMethod yX8_depthOf, Cond.selects RX8 yX8_depthOf yX8_depthOf, Cond.code yX8_depthOf cX8_depthOf 4 (some .int), Cond.methodLink RX8 146 yX8_laysUnder, Cond.instanceMethod yX8_laysUnder, Cond.selects RX8 yX8_laysUnder yX8_laysUnder, Cond.code yX8_laysUnder cX8_laysUnder 8 none, Cond.fieldLink RX8 96 "TreemapLayoutModel" "many" "I", Cond.fieldLink RX8 44 "TreemapLayoutModel" "children" "[I", Cond.methodLink RX8 135 yX8_laysChildren, Cond.instanceMethod yX8_laysChildren, Cond.selects RX8 yX8_laysChildren yX8_laysChildren, Cond.code yX8_laysChildren cX8_laysChildren 3 none, Cond.methodLink RX8 121 yX8_laysRow, Cond.instanceMethod yX8_laysRow, Cond.selects RX8 yX8_laysRow yX8_laysRow, Cond.code yX8_laysRow cX8_laysRow 11 none, Cond.fieldLink RX8 22 "TreemapLayoutModel" "lengths" "[I", Cond.methodLink RX8 99 yX8_laysSizes]
def wsX8_x_r3 : List Cond := [Cond.instanceMethod yX8_laysSizes, Cond.selects RX8 yX8_laysSizes yX8_laysSizes, Cond.code yX8_laysSizes cX8_laysSizes 4 none, Cond.fieldLink RX8 19 "TreemapLayoutModel" "sizes" "[I", Cond.methodLink RX8 103 yX8_parts, Cond.instanceMethod yX8_parts, Cond.selects RX8 yX8_parts yX8_parts, Cond.code yX8_parts cX8_parts 9 none, Cond.methodLink RX8 139 yX8_laysStrips, Cond.instanceMethod yX8_laysStrips, Cond.selects RX8 yX8_laysStrips yX8_laysStrips, Cond.code yX8_laysStrips cX8_laysStrips 10 none, Cond.fieldLink RX8 47 "TreemapLayoutModel" "strips" "[I", Cond.fieldLink RX8 50 "TreemapLayoutModel" "heights" "[I", Cond.methodLink RX8 117 yX8_average, Cond.instanceMethod yX8_average, Cond.selects RX8 yX8_average yX8_average, Cond.code yX8_average cX8_average 7 (some .float), Cond.methodLink RX8 113 yX8_aspect, Cond.instanceMethod yX8_aspect, Cond.selects RX8 yX8_aspect yX8_aspect, Cond.code yX8_aspect cX8_aspect 10 (some .float), Cond.methodLink RX8 110 yX8_sumOf, Cond.instanceMethod yX8_sumOf]
def wsX8_x_r4 : List Cond := [Cond.selects RX8 yX8_sumOf yX8_sumOf, Cond.code yX8_sumOf cX8_sumOf 5 (some .int), Cond.methodLink RX8 142 yX8_laysSquares, Cond.instanceMethod yX8_laysSquares, Cond.selects RX8 yX8_laysSquares yX8_laysSquares, Cond.code yX8_laysSquares cX8_laysSquares 16 none, Cond.methodLink RX8 128 yX8_sorts, Cond.instanceMethod yX8_sorts, Cond.selects RX8 yX8_sorts yX8_sorts, Cond.code yX8_sorts cX8_sorts 4 none, Cond.methodLink RX8 131 yX8_rowOf, Cond.instanceMethod yX8_rowOf, Cond.selects RX8 yX8_rowOf yX8_rowOf, Cond.code yX8_rowOf cX8_rowOf 5 (some .int), Cond.methodLink RX8 125 yX8_worst, Cond.instanceMethod yX8_worst, Cond.selects RX8 yX8_worst yX8_worst, Cond.code yX8_worst cX8_worst 8 (some .float), Cond.methodLink RX8 75 yX8_isNode, Cond.instanceMethod yX8_isNode, Cond.selects RX8 yX8_isNode yX8_isNode, Cond.code yX8_isNode cX8_isNode 2 (some .boolean), Cond.methodLink RX8 56 yX8_within, Cond.static yX8_within]
def wsX8_x_r5 : List Cond := [Cond.code yX8_within cX8_within 3 (some .boolean), Cond.methodLink RX8 64 yX8_fails, Cond.instanceMethod yX8_fails, Cond.selects RX8 yX8_fails yX8_fails, Cond.code yX8_fails cX8_fails 2 (some .int), Cond.fieldLink RX8 16 "TreemapLayoutModel" "errors" "[I"]
def wsX8_x : List Cond := .code yX8_x cX8_x 2 (some .int) :: ((wsX8_x_r1 ++ (wsX8_x_r2 ++ (wsX8_x_r3 ++ (wsX8_x_r4 ++ wsX8_x_r5)))) ++ wsX80)
def wsX8_y_r1 : List Cond := [Cond.fieldLink RX8 28 "TreemapLayoutModel" "ys" "[I", Cond.methodLink RX8 149 yX8_lays, Cond.instanceMethod yX8_lays, Cond.selects RX8 yX8_lays yX8_lays, Cond.initialized RX8, Cond.code yX8_lays cX8_lays 3 none, Cond.fieldLink RX8 7 "TreemapLayoutModel" "now" "[I", Cond.fieldLink RX8 41 "TreemapLayoutModel" "allSizes" "[I", Cond.fieldLink RX8 37 "TreemapLayoutModel" "hidden" "[Z", Cond.methodLink RX8 86 yX8_sizeOf, Cond.instanceMethod yX8_sizeOf, Cond.selects RX8 yX8_sizeOf yX8_sizeOf, Cond.code yX8_sizeOf cX8_sizeOf 4 (some .int), Cond.methodLink RX8 68 yX8_childMany, Cond.instanceMethod yX8_childMany, Cond.selects RX8 yX8_childMany yX8_childMany, Cond.code yX8_childMany cX8_childMany 4 (some .int), Cond.methodLink RX8 71 yX8_isUnder, Cond.instanceMethod yX8_isUnder, Cond.selects RX8 yX8_isUnder yX8_isUnder, Cond.code yX8_isUnder cX8_isUnder 4 (some .boolean), Cond.methodLink RX8 106 yX8_puts, Cond.instanceMethod yX8_puts, Cond.selects RX8 yX8_puts yX8_puts]
def wsX8_y_r2 : List Cond := [Cond.code yX8_puts cX8_puts 6 none, Cond.fieldLink RX8 25 "TreemapLayoutModel" "xs" "[I", Cond.fieldLink RX8 31 "TreemapLayoutModel" "wides" "[I", Cond.fieldLink RX8 34 "TreemapLayoutModel" "highs" "[I", Cond.methodLink RX8 89 yX8_depthOf, Cond.instanceMethod yX8_depthOf, Cond.selects RX8 yX8_depthOf yX8_depthOf, Cond.code yX8_depthOf cX8_depthOf 4 (some .int), Cond.methodLink RX8 146 yX8_laysUnder, Cond.instanceMethod yX8_laysUnder, Cond.selects RX8 yX8_laysUnder yX8_laysUnder, Cond.code yX8_laysUnder cX8_laysUnder 8 none, Cond.fieldLink RX8 96 "TreemapLayoutModel" "many" "I", Cond.fieldLink RX8 44 "TreemapLayoutModel" "children" "[I", Cond.methodLink RX8 135 yX8_laysChildren, Cond.instanceMethod yX8_laysChildren, Cond.selects RX8 yX8_laysChildren yX8_laysChildren, Cond.code yX8_laysChildren cX8_laysChildren 3 none, Cond.methodLink RX8 121 yX8_laysRow, Cond.instanceMethod yX8_laysRow, Cond.selects RX8 yX8_laysRow yX8_laysRow, Cond.code yX8_laysRow cX8_laysRow 11 none, Cond.fieldLink RX8 22 "TreemapLayoutModel" "lengths" "[I", Cond.methodLink RX8 99 yX8_laysSizes]
def wsX8_y_r3 : List Cond := [Cond.instanceMethod yX8_laysSizes, Cond.selects RX8 yX8_laysSizes yX8_laysSizes, Cond.code yX8_laysSizes cX8_laysSizes 4 none, Cond.fieldLink RX8 19 "TreemapLayoutModel" "sizes" "[I", Cond.methodLink RX8 103 yX8_parts, Cond.instanceMethod yX8_parts, Cond.selects RX8 yX8_parts yX8_parts, Cond.code yX8_parts cX8_parts 9 none, Cond.methodLink RX8 139 yX8_laysStrips, Cond.instanceMethod yX8_laysStrips, Cond.selects RX8 yX8_laysStrips yX8_laysStrips, Cond.code yX8_laysStrips cX8_laysStrips 10 none, Cond.fieldLink RX8 47 "TreemapLayoutModel" "strips" "[I", Cond.fieldLink RX8 50 "TreemapLayoutModel" "heights" "[I", Cond.methodLink RX8 117 yX8_average, Cond.instanceMethod yX8_average, Cond.selects RX8 yX8_average yX8_average, Cond.code yX8_average cX8_average 7 (some .float), Cond.methodLink RX8 113 yX8_aspect, Cond.instanceMethod yX8_aspect, Cond.selects RX8 yX8_aspect yX8_aspect, Cond.code yX8_aspect cX8_aspect 10 (some .float), Cond.methodLink RX8 110 yX8_sumOf, Cond.instanceMethod yX8_sumOf]
def wsX8_y_r4 : List Cond := [Cond.selects RX8 yX8_sumOf yX8_sumOf, Cond.code yX8_sumOf cX8_sumOf 5 (some .int), Cond.methodLink RX8 142 yX8_laysSquares, Cond.instanceMethod yX8_laysSquares, Cond.selects RX8 yX8_laysSquares yX8_laysSquares, Cond.code yX8_laysSquares cX8_laysSquares 16 none, Cond.methodLink RX8 128 yX8_sorts, Cond.instanceMethod yX8_sorts, Cond.selects RX8 yX8_sorts yX8_sorts, Cond.code yX8_sorts cX8_sorts 4 none, Cond.methodLink RX8 131 yX8_rowOf, Cond.instanceMethod yX8_rowOf, Cond.selects RX8 yX8_rowOf yX8_rowOf, Cond.code yX8_rowOf cX8_rowOf 5 (some .int), Cond.methodLink RX8 125 yX8_worst, Cond.instanceMethod yX8_worst, Cond.selects RX8 yX8_worst yX8_worst, Cond.code yX8_worst cX8_worst 8 (some .float), Cond.methodLink RX8 75 yX8_isNode, Cond.instanceMethod yX8_isNode, Cond.selects RX8 yX8_isNode yX8_isNode, Cond.code yX8_isNode cX8_isNode 2 (some .boolean), Cond.methodLink RX8 56 yX8_within, Cond.static yX8_within]
def wsX8_y_r5 : List Cond := [Cond.code yX8_within cX8_within 3 (some .boolean), Cond.methodLink RX8 64 yX8_fails, Cond.instanceMethod yX8_fails, Cond.selects RX8 yX8_fails yX8_fails, Cond.code yX8_fails cX8_fails 2 (some .int), Cond.fieldLink RX8 16 "TreemapLayoutModel" "errors" "[I"]
def wsX8_y : List Cond := .code yX8_y cX8_y 2 (some .int) :: ((wsX8_y_r1 ++ (wsX8_y_r2 ++ (wsX8_y_r3 ++ (wsX8_y_r4 ++ wsX8_y_r5)))) ++ wsX80)
def wsX8_width_r1 : List Cond := [Cond.fieldLink RX8 31 "TreemapLayoutModel" "wides" "[I", Cond.methodLink RX8 149 yX8_lays, Cond.instanceMethod yX8_lays, Cond.selects RX8 yX8_lays yX8_lays, Cond.initialized RX8, Cond.code yX8_lays cX8_lays 3 none, Cond.fieldLink RX8 7 "TreemapLayoutModel" "now" "[I", Cond.fieldLink RX8 41 "TreemapLayoutModel" "allSizes" "[I", Cond.fieldLink RX8 37 "TreemapLayoutModel" "hidden" "[Z", Cond.methodLink RX8 86 yX8_sizeOf, Cond.instanceMethod yX8_sizeOf, Cond.selects RX8 yX8_sizeOf yX8_sizeOf, Cond.code yX8_sizeOf cX8_sizeOf 4 (some .int), Cond.methodLink RX8 68 yX8_childMany, Cond.instanceMethod yX8_childMany, Cond.selects RX8 yX8_childMany yX8_childMany, Cond.code yX8_childMany cX8_childMany 4 (some .int), Cond.methodLink RX8 71 yX8_isUnder, Cond.instanceMethod yX8_isUnder, Cond.selects RX8 yX8_isUnder yX8_isUnder, Cond.code yX8_isUnder cX8_isUnder 4 (some .boolean), Cond.methodLink RX8 106 yX8_puts, Cond.instanceMethod yX8_puts, Cond.selects RX8 yX8_puts yX8_puts]
def wsX8_width_r2 : List Cond := [Cond.code yX8_puts cX8_puts 6 none, Cond.fieldLink RX8 25 "TreemapLayoutModel" "xs" "[I", Cond.fieldLink RX8 28 "TreemapLayoutModel" "ys" "[I", Cond.fieldLink RX8 34 "TreemapLayoutModel" "highs" "[I", Cond.methodLink RX8 89 yX8_depthOf, Cond.instanceMethod yX8_depthOf, Cond.selects RX8 yX8_depthOf yX8_depthOf, Cond.code yX8_depthOf cX8_depthOf 4 (some .int), Cond.methodLink RX8 146 yX8_laysUnder, Cond.instanceMethod yX8_laysUnder, Cond.selects RX8 yX8_laysUnder yX8_laysUnder, Cond.code yX8_laysUnder cX8_laysUnder 8 none, Cond.fieldLink RX8 96 "TreemapLayoutModel" "many" "I", Cond.fieldLink RX8 44 "TreemapLayoutModel" "children" "[I", Cond.methodLink RX8 135 yX8_laysChildren, Cond.instanceMethod yX8_laysChildren, Cond.selects RX8 yX8_laysChildren yX8_laysChildren, Cond.code yX8_laysChildren cX8_laysChildren 3 none, Cond.methodLink RX8 121 yX8_laysRow, Cond.instanceMethod yX8_laysRow, Cond.selects RX8 yX8_laysRow yX8_laysRow, Cond.code yX8_laysRow cX8_laysRow 11 none, Cond.fieldLink RX8 22 "TreemapLayoutModel" "lengths" "[I", Cond.methodLink RX8 99 yX8_laysSizes]
def wsX8_width_r3 : List Cond := [Cond.instanceMethod yX8_laysSizes, Cond.selects RX8 yX8_laysSizes yX8_laysSizes, Cond.code yX8_laysSizes cX8_laysSizes 4 none, Cond.fieldLink RX8 19 "TreemapLayoutModel" "sizes" "[I", Cond.methodLink RX8 103 yX8_parts, Cond.instanceMethod yX8_parts, Cond.selects RX8 yX8_parts yX8_parts, Cond.code yX8_parts cX8_parts 9 none, Cond.methodLink RX8 139 yX8_laysStrips, Cond.instanceMethod yX8_laysStrips, Cond.selects RX8 yX8_laysStrips yX8_laysStrips, Cond.code yX8_laysStrips cX8_laysStrips 10 none, Cond.fieldLink RX8 47 "TreemapLayoutModel" "strips" "[I", Cond.fieldLink RX8 50 "TreemapLayoutModel" "heights" "[I", Cond.methodLink RX8 117 yX8_average, Cond.instanceMethod yX8_average, Cond.selects RX8 yX8_average yX8_average, Cond.code yX8_average cX8_average 7 (some .float), Cond.methodLink RX8 113 yX8_aspect, Cond.instanceMethod yX8_aspect, Cond.selects RX8 yX8_aspect yX8_aspect, Cond.code yX8_aspect cX8_aspect 10 (some .float), Cond.methodLink RX8 110 yX8_sumOf, Cond.instanceMethod yX8_sumOf]
def wsX8_width_r4 : List Cond := [Cond.selects RX8 yX8_sumOf yX8_sumOf, Cond.code yX8_sumOf cX8_sumOf 5 (some .int), Cond.methodLink RX8 142 yX8_laysSquares, Cond.instanceMethod yX8_laysSquares, Cond.selects RX8 yX8_laysSquares yX8_laysSquares, Cond.code yX8_laysSquares cX8_laysSquares 16 none, Cond.methodLink RX8 128 yX8_sorts, Cond.instanceMethod yX8_sorts, Cond.selects RX8 yX8_sorts yX8_sorts, Cond.code yX8_sorts cX8_sorts 4 none, Cond.methodLink RX8 131 yX8_rowOf, Cond.instanceMethod yX8_rowOf, Cond.selects RX8 yX8_rowOf yX8_rowOf, Cond.code yX8_rowOf cX8_rowOf 5 (some .int), Cond.methodLink RX8 125 yX8_worst, Cond.instanceMethod yX8_worst, Cond.selects RX8 yX8_worst yX8_worst, Cond.code yX8_worst cX8_worst 8 (some .float), Cond.methodLink RX8 75 yX8_isNode, Cond.instanceMethod yX8_isNode, Cond.selects RX8 yX8_isNode yX8_isNode, Cond.code yX8_isNode cX8_isNode 2 (some .boolean), Cond.methodLink RX8 56 yX8_within, Cond.static yX8_within]
def wsX8_width_r5 : List Cond := [Cond.code yX8_within cX8_within 3 (some .boolean), Cond.methodLink RX8 64 yX8_fails, Cond.instanceMethod yX8_fails, Cond.selects RX8 yX8_fails yX8_fails, Cond.code yX8_fails cX8_fails 2 (some .int), Cond.fieldLink RX8 16 "TreemapLayoutModel" "errors" "[I"]
def wsX8_width : List Cond := .code yX8_width cX8_width 2 (some .int) :: ((wsX8_width_r1 ++ (wsX8_width_r2 ++ (wsX8_width_r3 ++ (wsX8_width_r4 ++ wsX8_width_r5)))) ++ wsX80)
def wsX8_height_r1 : List Cond := [Cond.fieldLink RX8 34 "TreemapLayoutModel" "highs" "[I", Cond.methodLink RX8 149 yX8_lays, Cond.instanceMethod yX8_lays, Cond.selects RX8 yX8_lays yX8_lays, Cond.initialized RX8, Cond.code yX8_lays cX8_lays 3 none, Cond.fieldLink RX8 7 "TreemapLayoutModel" "now" "[I", Cond.fieldLink RX8 41 "TreemapLayoutModel" "allSizes" "[I", Cond.fieldLink RX8 37 "TreemapLayoutModel" "hidden" "[Z", Cond.methodLink RX8 86 yX8_sizeOf, Cond.instanceMethod yX8_sizeOf, Cond.selects RX8 yX8_sizeOf yX8_sizeOf, Cond.code yX8_sizeOf cX8_sizeOf 4 (some .int), Cond.methodLink RX8 68 yX8_childMany, Cond.instanceMethod yX8_childMany, Cond.selects RX8 yX8_childMany yX8_childMany, Cond.code yX8_childMany cX8_childMany 4 (some .int), Cond.methodLink RX8 71 yX8_isUnder, Cond.instanceMethod yX8_isUnder, Cond.selects RX8 yX8_isUnder yX8_isUnder, Cond.code yX8_isUnder cX8_isUnder 4 (some .boolean), Cond.methodLink RX8 106 yX8_puts, Cond.instanceMethod yX8_puts, Cond.selects RX8 yX8_puts yX8_puts]
def wsX8_height_r2 : List Cond := [Cond.code yX8_puts cX8_puts 6 none, Cond.fieldLink RX8 25 "TreemapLayoutModel" "xs" "[I", Cond.fieldLink RX8 28 "TreemapLayoutModel" "ys" "[I", Cond.fieldLink RX8 31 "TreemapLayoutModel" "wides" "[I", Cond.methodLink RX8 89 yX8_depthOf, Cond.instanceMethod yX8_depthOf, Cond.selects RX8 yX8_depthOf yX8_depthOf, Cond.code yX8_depthOf cX8_depthOf 4 (some .int), Cond.methodLink RX8 146 yX8_laysUnder, Cond.instanceMethod yX8_laysUnder, Cond.selects RX8 yX8_laysUnder yX8_laysUnder, Cond.code yX8_laysUnder cX8_laysUnder 8 none, Cond.fieldLink RX8 96 "TreemapLayoutModel" "many" "I", Cond.fieldLink RX8 44 "TreemapLayoutModel" "children" "[I", Cond.methodLink RX8 135 yX8_laysChildren, Cond.instanceMethod yX8_laysChildren, Cond.selects RX8 yX8_laysChildren yX8_laysChildren, Cond.code yX8_laysChildren cX8_laysChildren 3 none, Cond.methodLink RX8 121 yX8_laysRow, Cond.instanceMethod yX8_laysRow, Cond.selects RX8 yX8_laysRow yX8_laysRow, Cond.code yX8_laysRow cX8_laysRow 11 none, Cond.fieldLink RX8 22 "TreemapLayoutModel" "lengths" "[I", Cond.methodLink RX8 99 yX8_laysSizes]
def wsX8_height_r3 : List Cond := [Cond.instanceMethod yX8_laysSizes, Cond.selects RX8 yX8_laysSizes yX8_laysSizes, Cond.code yX8_laysSizes cX8_laysSizes 4 none, Cond.fieldLink RX8 19 "TreemapLayoutModel" "sizes" "[I", Cond.methodLink RX8 103 yX8_parts, Cond.instanceMethod yX8_parts, Cond.selects RX8 yX8_parts yX8_parts, Cond.code yX8_parts cX8_parts 9 none, Cond.methodLink RX8 139 yX8_laysStrips, Cond.instanceMethod yX8_laysStrips, Cond.selects RX8 yX8_laysStrips yX8_laysStrips, Cond.code yX8_laysStrips cX8_laysStrips 10 none, Cond.fieldLink RX8 47 "TreemapLayoutModel" "strips" "[I", Cond.fieldLink RX8 50 "TreemapLayoutModel" "heights" "[I", Cond.methodLink RX8 117 yX8_average, Cond.instanceMethod yX8_average, Cond.selects RX8 yX8_average yX8_average, Cond.code yX8_average cX8_average 7 (some .float), Cond.methodLink RX8 113 yX8_aspect, Cond.instanceMethod yX8_aspect, Cond.selects RX8 yX8_aspect yX8_aspect, Cond.code yX8_aspect cX8_aspect 10 (some .float), Cond.methodLink RX8 110 yX8_sumOf, Cond.instanceMethod yX8_sumOf]
def wsX8_height_r4 : List Cond := [Cond.selects RX8 yX8_sumOf yX8_sumOf, Cond.code yX8_sumOf cX8_sumOf 5 (some .int), Cond.methodLink RX8 142 yX8_laysSquares, Cond.instanceMethod yX8_laysSquares, Cond.selects RX8 yX8_laysSquares yX8_laysSquares, Cond.code yX8_laysSquares cX8_laysSquares 16 none, Cond.methodLink RX8 128 yX8_sorts, Cond.instanceMethod yX8_sorts, Cond.selects RX8 yX8_sorts yX8_sorts, Cond.code yX8_sorts cX8_sorts 4 none, Cond.methodLink RX8 131 yX8_rowOf, Cond.instanceMethod yX8_rowOf, Cond.selects RX8 yX8_rowOf yX8_rowOf, Cond.code yX8_rowOf cX8_rowOf 5 (some .int), Cond.methodLink RX8 125 yX8_worst, Cond.instanceMethod yX8_worst, Cond.selects RX8 yX8_worst yX8_worst, Cond.code yX8_worst cX8_worst 8 (some .float), Cond.methodLink RX8 75 yX8_isNode, Cond.instanceMethod yX8_isNode, Cond.selects RX8 yX8_isNode yX8_isNode, Cond.code yX8_isNode cX8_isNode 2 (some .boolean), Cond.methodLink RX8 56 yX8_within, Cond.static yX8_within]
def wsX8_height_r5 : List Cond := [Cond.code yX8_within cX8_within 3 (some .boolean), Cond.methodLink RX8 64 yX8_fails, Cond.instanceMethod yX8_fails, Cond.selects RX8 yX8_fails yX8_fails, Cond.code yX8_fails cX8_fails 2 (some .int), Cond.fieldLink RX8 16 "TreemapLayoutModel" "errors" "[I"]
def wsX8_height : List Cond := .code yX8_height cX8_height 2 (some .int) :: ((wsX8_height_r1 ++ (wsX8_height_r2 ++ (wsX8_height_r3 ++ (wsX8_height_r4 ++ wsX8_height_r5)))) ++ wsX80)
def wsX8_isHidden_r1 : List Cond := [Cond.fieldLink RX8 37 "TreemapLayoutModel" "hidden" "[Z", Cond.methodLink RX8 149 yX8_lays, Cond.instanceMethod yX8_lays, Cond.selects RX8 yX8_lays yX8_lays, Cond.initialized RX8, Cond.code yX8_lays cX8_lays 3 none, Cond.fieldLink RX8 7 "TreemapLayoutModel" "now" "[I", Cond.fieldLink RX8 41 "TreemapLayoutModel" "allSizes" "[I", Cond.methodLink RX8 86 yX8_sizeOf, Cond.instanceMethod yX8_sizeOf, Cond.selects RX8 yX8_sizeOf yX8_sizeOf, Cond.code yX8_sizeOf cX8_sizeOf 4 (some .int), Cond.methodLink RX8 68 yX8_childMany, Cond.instanceMethod yX8_childMany, Cond.selects RX8 yX8_childMany yX8_childMany, Cond.code yX8_childMany cX8_childMany 4 (some .int), Cond.methodLink RX8 71 yX8_isUnder, Cond.instanceMethod yX8_isUnder, Cond.selects RX8 yX8_isUnder yX8_isUnder, Cond.code yX8_isUnder cX8_isUnder 4 (some .boolean), Cond.methodLink RX8 106 yX8_puts, Cond.instanceMethod yX8_puts, Cond.selects RX8 yX8_puts yX8_puts, Cond.code yX8_puts cX8_puts 6 none]
def wsX8_isHidden_r2 : List Cond := [Cond.fieldLink RX8 25 "TreemapLayoutModel" "xs" "[I", Cond.fieldLink RX8 28 "TreemapLayoutModel" "ys" "[I", Cond.fieldLink RX8 31 "TreemapLayoutModel" "wides" "[I", Cond.fieldLink RX8 34 "TreemapLayoutModel" "highs" "[I", Cond.methodLink RX8 89 yX8_depthOf, Cond.instanceMethod yX8_depthOf, Cond.selects RX8 yX8_depthOf yX8_depthOf, Cond.code yX8_depthOf cX8_depthOf 4 (some .int), Cond.methodLink RX8 146 yX8_laysUnder, Cond.instanceMethod yX8_laysUnder, Cond.selects RX8 yX8_laysUnder yX8_laysUnder, Cond.code yX8_laysUnder cX8_laysUnder 8 none, Cond.fieldLink RX8 96 "TreemapLayoutModel" "many" "I", Cond.fieldLink RX8 44 "TreemapLayoutModel" "children" "[I", Cond.methodLink RX8 135 yX8_laysChildren, Cond.instanceMethod yX8_laysChildren, Cond.selects RX8 yX8_laysChildren yX8_laysChildren, Cond.code yX8_laysChildren cX8_laysChildren 3 none, Cond.methodLink RX8 121 yX8_laysRow, Cond.instanceMethod yX8_laysRow, Cond.selects RX8 yX8_laysRow yX8_laysRow, Cond.code yX8_laysRow cX8_laysRow 11 none, Cond.fieldLink RX8 22 "TreemapLayoutModel" "lengths" "[I", Cond.methodLink RX8 99 yX8_laysSizes]
def wsX8_isHidden_r3 : List Cond := [Cond.instanceMethod yX8_laysSizes, Cond.selects RX8 yX8_laysSizes yX8_laysSizes, Cond.code yX8_laysSizes cX8_laysSizes 4 none, Cond.fieldLink RX8 19 "TreemapLayoutModel" "sizes" "[I", Cond.methodLink RX8 103 yX8_parts, Cond.instanceMethod yX8_parts, Cond.selects RX8 yX8_parts yX8_parts, Cond.code yX8_parts cX8_parts 9 none, Cond.methodLink RX8 139 yX8_laysStrips, Cond.instanceMethod yX8_laysStrips, Cond.selects RX8 yX8_laysStrips yX8_laysStrips, Cond.code yX8_laysStrips cX8_laysStrips 10 none, Cond.fieldLink RX8 47 "TreemapLayoutModel" "strips" "[I", Cond.fieldLink RX8 50 "TreemapLayoutModel" "heights" "[I", Cond.methodLink RX8 117 yX8_average, Cond.instanceMethod yX8_average, Cond.selects RX8 yX8_average yX8_average, Cond.code yX8_average cX8_average 7 (some .float), Cond.methodLink RX8 113 yX8_aspect, Cond.instanceMethod yX8_aspect, Cond.selects RX8 yX8_aspect yX8_aspect, Cond.code yX8_aspect cX8_aspect 10 (some .float), Cond.methodLink RX8 110 yX8_sumOf, Cond.instanceMethod yX8_sumOf]
def wsX8_isHidden_r4 : List Cond := [Cond.selects RX8 yX8_sumOf yX8_sumOf, Cond.code yX8_sumOf cX8_sumOf 5 (some .int), Cond.methodLink RX8 142 yX8_laysSquares, Cond.instanceMethod yX8_laysSquares, Cond.selects RX8 yX8_laysSquares yX8_laysSquares, Cond.code yX8_laysSquares cX8_laysSquares 16 none, Cond.methodLink RX8 128 yX8_sorts, Cond.instanceMethod yX8_sorts, Cond.selects RX8 yX8_sorts yX8_sorts, Cond.code yX8_sorts cX8_sorts 4 none, Cond.methodLink RX8 131 yX8_rowOf, Cond.instanceMethod yX8_rowOf, Cond.selects RX8 yX8_rowOf yX8_rowOf, Cond.code yX8_rowOf cX8_rowOf 5 (some .int), Cond.methodLink RX8 125 yX8_worst, Cond.instanceMethod yX8_worst, Cond.selects RX8 yX8_worst yX8_worst, Cond.code yX8_worst cX8_worst 8 (some .float), Cond.methodLink RX8 75 yX8_isNode, Cond.instanceMethod yX8_isNode, Cond.selects RX8 yX8_isNode yX8_isNode, Cond.code yX8_isNode cX8_isNode 2 (some .boolean), Cond.methodLink RX8 56 yX8_within, Cond.static yX8_within]
def wsX8_isHidden_r5 : List Cond := [Cond.code yX8_within cX8_within 3 (some .boolean), Cond.methodLink RX8 64 yX8_fails, Cond.instanceMethod yX8_fails, Cond.selects RX8 yX8_fails yX8_fails, Cond.code yX8_fails cX8_fails 2 (some .int), Cond.fieldLink RX8 16 "TreemapLayoutModel" "errors" "[I"]
def wsX8_isHidden : List Cond := .code yX8_isHidden cX8_isHidden 2 (some .int) :: ((wsX8_isHidden_r1 ++ (wsX8_isHidden_r2 ++ (wsX8_isHidden_r3 ++ (wsX8_isHidden_r4 ++ wsX8_isHidden_r5)))) ++ wsX80)
def wsX8_nodeAt_r1 : List Cond := [Cond.fieldLink RX8 7 "TreemapLayoutModel" "now" "[I", Cond.fieldLink RX8 25 "TreemapLayoutModel" "xs" "[I", Cond.fieldLink RX8 31 "TreemapLayoutModel" "wides" "[I", Cond.fieldLink RX8 28 "TreemapLayoutModel" "ys" "[I", Cond.fieldLink RX8 34 "TreemapLayoutModel" "highs" "[I", Cond.methodLink RX8 56 yX8_within, Cond.static yX8_within, Cond.initialized RX8, Cond.code yX8_within cX8_within 3 (some .boolean), Cond.methodLink RX8 64 yX8_fails, Cond.instanceMethod yX8_fails, Cond.selects RX8 yX8_fails yX8_fails, Cond.code yX8_fails cX8_fails 2 (some .int), Cond.fieldLink RX8 16 "TreemapLayoutModel" "errors" "[I", Cond.methodLink RX8 149 yX8_lays, Cond.instanceMethod yX8_lays, Cond.selects RX8 yX8_lays yX8_lays, Cond.code yX8_lays cX8_lays 3 none, Cond.fieldLink RX8 41 "TreemapLayoutModel" "allSizes" "[I", Cond.fieldLink RX8 37 "TreemapLayoutModel" "hidden" "[Z", Cond.methodLink RX8 86 yX8_sizeOf, Cond.instanceMethod yX8_sizeOf, Cond.selects RX8 yX8_sizeOf yX8_sizeOf, Cond.code yX8_sizeOf cX8_sizeOf 4 (some .int)]
def wsX8_nodeAt_r2 : List Cond := [Cond.methodLink RX8 68 yX8_childMany, Cond.instanceMethod yX8_childMany, Cond.selects RX8 yX8_childMany yX8_childMany, Cond.code yX8_childMany cX8_childMany 4 (some .int), Cond.methodLink RX8 71 yX8_isUnder, Cond.instanceMethod yX8_isUnder, Cond.selects RX8 yX8_isUnder yX8_isUnder, Cond.code yX8_isUnder cX8_isUnder 4 (some .boolean), Cond.methodLink RX8 106 yX8_puts, Cond.instanceMethod yX8_puts, Cond.selects RX8 yX8_puts yX8_puts, Cond.code yX8_puts cX8_puts 6 none, Cond.methodLink RX8 89 yX8_depthOf, Cond.instanceMethod yX8_depthOf, Cond.selects RX8 yX8_depthOf yX8_depthOf, Cond.code yX8_depthOf cX8_depthOf 4 (some .int), Cond.methodLink RX8 146 yX8_laysUnder, Cond.instanceMethod yX8_laysUnder, Cond.selects RX8 yX8_laysUnder yX8_laysUnder, Cond.code yX8_laysUnder cX8_laysUnder 8 none, Cond.fieldLink RX8 96 "TreemapLayoutModel" "many" "I", Cond.fieldLink RX8 44 "TreemapLayoutModel" "children" "[I", Cond.methodLink RX8 135 yX8_laysChildren, Cond.instanceMethod yX8_laysChildren]
def wsX8_nodeAt_r3 : List Cond := [Cond.selects RX8 yX8_laysChildren yX8_laysChildren, Cond.code yX8_laysChildren cX8_laysChildren 3 none, Cond.methodLink RX8 121 yX8_laysRow, Cond.instanceMethod yX8_laysRow, Cond.selects RX8 yX8_laysRow yX8_laysRow, Cond.code yX8_laysRow cX8_laysRow 11 none, Cond.fieldLink RX8 22 "TreemapLayoutModel" "lengths" "[I", Cond.methodLink RX8 99 yX8_laysSizes, Cond.instanceMethod yX8_laysSizes, Cond.selects RX8 yX8_laysSizes yX8_laysSizes, Cond.code yX8_laysSizes cX8_laysSizes 4 none, Cond.fieldLink RX8 19 "TreemapLayoutModel" "sizes" "[I", Cond.methodLink RX8 103 yX8_parts, Cond.instanceMethod yX8_parts, Cond.selects RX8 yX8_parts yX8_parts, Cond.code yX8_parts cX8_parts 9 none, Cond.methodLink RX8 139 yX8_laysStrips, Cond.instanceMethod yX8_laysStrips, Cond.selects RX8 yX8_laysStrips yX8_laysStrips, Cond.code yX8_laysStrips cX8_laysStrips 10 none, Cond.fieldLink RX8 47 "TreemapLayoutModel" "strips" "[I", Cond.fieldLink RX8 50 "TreemapLayoutModel" "heights" "[I", Cond.methodLink RX8 117 yX8_average, Cond.instanceMethod yX8_average]
def wsX8_nodeAt_r4 : List Cond := [Cond.selects RX8 yX8_average yX8_average, Cond.code yX8_average cX8_average 7 (some .float), Cond.methodLink RX8 113 yX8_aspect, Cond.instanceMethod yX8_aspect, Cond.selects RX8 yX8_aspect yX8_aspect, Cond.code yX8_aspect cX8_aspect 10 (some .float), Cond.methodLink RX8 110 yX8_sumOf, Cond.instanceMethod yX8_sumOf, Cond.selects RX8 yX8_sumOf yX8_sumOf, Cond.code yX8_sumOf cX8_sumOf 5 (some .int), Cond.methodLink RX8 142 yX8_laysSquares, Cond.instanceMethod yX8_laysSquares, Cond.selects RX8 yX8_laysSquares yX8_laysSquares, Cond.code yX8_laysSquares cX8_laysSquares 16 none, Cond.methodLink RX8 128 yX8_sorts, Cond.instanceMethod yX8_sorts, Cond.selects RX8 yX8_sorts yX8_sorts, Cond.code yX8_sorts cX8_sorts 4 none, Cond.methodLink RX8 131 yX8_rowOf, Cond.instanceMethod yX8_rowOf, Cond.selects RX8 yX8_rowOf yX8_rowOf, Cond.code yX8_rowOf cX8_rowOf 5 (some .int), Cond.methodLink RX8 125 yX8_worst, Cond.instanceMethod yX8_worst]
def wsX8_nodeAt_r5 : List Cond := [Cond.selects RX8 yX8_worst yX8_worst, Cond.code yX8_worst cX8_worst 8 (some .float)]
def wsX8_nodeAt : List Cond := .code yX8_nodeAt cX8_nodeAt 6 (some .int) :: ((wsX8_nodeAt_r1 ++ (wsX8_nodeAt_r2 ++ (wsX8_nodeAt_r3 ++ (wsX8_nodeAt_r4 ++ wsX8_nodeAt_r5)))) ++ wsX80)
def wsX8_pixels : List Cond := .code yX8_pixels cX8_pixels 3 (some .int) :: ([.fieldLink RX8 7 "TreemapLayoutModel" "now" "[I", .fieldLink RX8 31 "TreemapLayoutModel" "wides" "[I", .fieldLink RX8 34 "TreemapLayoutModel" "highs" "[I", .methodLink RX8 68 yX8_childMany, .instanceMethod yX8_childMany, .selects RX8 yX8_childMany yX8_childMany, .initialized RX8, .code yX8_childMany cX8_childMany 4 (some .int)] ++ wsX80)
def wsX8_leafPixels_r1 : List Cond := [Cond.methodLink RX8 149 yX8_lays, Cond.instanceMethod yX8_lays, Cond.selects RX8 yX8_lays yX8_lays, Cond.initialized RX8, Cond.code yX8_lays cX8_lays 3 none, Cond.fieldLink RX8 7 "TreemapLayoutModel" "now" "[I", Cond.fieldLink RX8 41 "TreemapLayoutModel" "allSizes" "[I", Cond.fieldLink RX8 37 "TreemapLayoutModel" "hidden" "[Z", Cond.methodLink RX8 86 yX8_sizeOf, Cond.instanceMethod yX8_sizeOf, Cond.selects RX8 yX8_sizeOf yX8_sizeOf, Cond.code yX8_sizeOf cX8_sizeOf 4 (some .int), Cond.methodLink RX8 68 yX8_childMany, Cond.instanceMethod yX8_childMany, Cond.selects RX8 yX8_childMany yX8_childMany, Cond.code yX8_childMany cX8_childMany 4 (some .int), Cond.methodLink RX8 71 yX8_isUnder, Cond.instanceMethod yX8_isUnder, Cond.selects RX8 yX8_isUnder yX8_isUnder, Cond.code yX8_isUnder cX8_isUnder 4 (some .boolean), Cond.methodLink RX8 106 yX8_puts, Cond.instanceMethod yX8_puts, Cond.selects RX8 yX8_puts yX8_puts, Cond.code yX8_puts cX8_puts 6 none]
def wsX8_leafPixels_r2 : List Cond := [Cond.fieldLink RX8 25 "TreemapLayoutModel" "xs" "[I", Cond.fieldLink RX8 28 "TreemapLayoutModel" "ys" "[I", Cond.fieldLink RX8 31 "TreemapLayoutModel" "wides" "[I", Cond.fieldLink RX8 34 "TreemapLayoutModel" "highs" "[I", Cond.methodLink RX8 89 yX8_depthOf, Cond.instanceMethod yX8_depthOf, Cond.selects RX8 yX8_depthOf yX8_depthOf, Cond.code yX8_depthOf cX8_depthOf 4 (some .int), Cond.methodLink RX8 146 yX8_laysUnder, Cond.instanceMethod yX8_laysUnder, Cond.selects RX8 yX8_laysUnder yX8_laysUnder, Cond.code yX8_laysUnder cX8_laysUnder 8 none, Cond.fieldLink RX8 96 "TreemapLayoutModel" "many" "I", Cond.fieldLink RX8 44 "TreemapLayoutModel" "children" "[I", Cond.methodLink RX8 135 yX8_laysChildren, Cond.instanceMethod yX8_laysChildren, Cond.selects RX8 yX8_laysChildren yX8_laysChildren, Cond.code yX8_laysChildren cX8_laysChildren 3 none, Cond.methodLink RX8 121 yX8_laysRow, Cond.instanceMethod yX8_laysRow, Cond.selects RX8 yX8_laysRow yX8_laysRow, Cond.code yX8_laysRow cX8_laysRow 11 none, Cond.fieldLink RX8 22 "TreemapLayoutModel" "lengths" "[I", Cond.methodLink RX8 99 yX8_laysSizes]
def wsX8_leafPixels_r3 : List Cond := [Cond.instanceMethod yX8_laysSizes, Cond.selects RX8 yX8_laysSizes yX8_laysSizes, Cond.code yX8_laysSizes cX8_laysSizes 4 none, Cond.fieldLink RX8 19 "TreemapLayoutModel" "sizes" "[I", Cond.methodLink RX8 103 yX8_parts, Cond.instanceMethod yX8_parts, Cond.selects RX8 yX8_parts yX8_parts, Cond.code yX8_parts cX8_parts 9 none, Cond.methodLink RX8 139 yX8_laysStrips, Cond.instanceMethod yX8_laysStrips, Cond.selects RX8 yX8_laysStrips yX8_laysStrips, Cond.code yX8_laysStrips cX8_laysStrips 10 none, Cond.fieldLink RX8 47 "TreemapLayoutModel" "strips" "[I", Cond.fieldLink RX8 50 "TreemapLayoutModel" "heights" "[I", Cond.methodLink RX8 117 yX8_average, Cond.instanceMethod yX8_average, Cond.selects RX8 yX8_average yX8_average, Cond.code yX8_average cX8_average 7 (some .float), Cond.methodLink RX8 113 yX8_aspect, Cond.instanceMethod yX8_aspect, Cond.selects RX8 yX8_aspect yX8_aspect, Cond.code yX8_aspect cX8_aspect 10 (some .float), Cond.methodLink RX8 110 yX8_sumOf, Cond.instanceMethod yX8_sumOf]
def wsX8_leafPixels_r4 : List Cond := [Cond.selects RX8 yX8_sumOf yX8_sumOf, Cond.code yX8_sumOf cX8_sumOf 5 (some .int), Cond.methodLink RX8 142 yX8_laysSquares, Cond.instanceMethod yX8_laysSquares, Cond.selects RX8 yX8_laysSquares yX8_laysSquares, Cond.code yX8_laysSquares cX8_laysSquares 16 none, Cond.methodLink RX8 128 yX8_sorts, Cond.instanceMethod yX8_sorts, Cond.selects RX8 yX8_sorts yX8_sorts, Cond.code yX8_sorts cX8_sorts 4 none, Cond.methodLink RX8 131 yX8_rowOf, Cond.instanceMethod yX8_rowOf, Cond.selects RX8 yX8_rowOf yX8_rowOf, Cond.code yX8_rowOf cX8_rowOf 5 (some .int), Cond.methodLink RX8 125 yX8_worst, Cond.instanceMethod yX8_worst, Cond.selects RX8 yX8_worst yX8_worst, Cond.code yX8_worst cX8_worst 8 (some .float), Cond.methodLink RX8 152 yX8_pixels, Cond.instanceMethod yX8_pixels, Cond.selects RX8 yX8_pixels yX8_pixels, Cond.code yX8_pixels cX8_pixels 3 (some .int)]
def wsX8_leafPixels : List Cond := .code yX8_leafPixels cX8_leafPixels 1 (some .int) :: ((wsX8_leafPixels_r1 ++ (wsX8_leafPixels_r2 ++ (wsX8_leafPixels_r3 ++ wsX8_leafPixels_r4))) ++ wsX80)
def wsJxf58ca_isNaN_12338 : List Cond := .code yJxf58ca_isNaN_12338 cJxf58ca_isNaN_12338 1 (some .boolean) :: ([])
def wsJxf58ca_floatToIntBits_5c35a : List Cond := .code yJxf58ca_floatToIntBits_5c35a cJxf58ca_floatToIntBits_5c35a 1 (some .int) :: ([.methodLink RJxf58ca 74 ⟨"java/lang/Float", "floatToRawIntBits", "(F)I"⟩, .native ⟨"java/lang/Float", "floatToRawIntBits", "(F)I"⟩, .static ⟨"java/lang/Float", "floatToRawIntBits", "(F)I"⟩, .initialized "java/lang/Float", .constant RJxf58ca 77 (2143289344), .methodLink RJxf58ca 59 yJxf58ca_isNaN_12338, .static yJxf58ca_isNaN_12338, .initialized RJxf58ca, .code yJxf58ca_isNaN_12338 cJxf58ca_isNaN_12338 1 (some .boolean)])
def wsX8_aspects : List Cond := .code yX8_aspects cX8_aspects 9 (some .int) :: ([.fieldLink RX8 7 "TreemapLayoutModel" "now" "[I", .fieldLink RX8 31 "TreemapLayoutModel" "wides" "[I", .fieldLink RX8 34 "TreemapLayoutModel" "highs" "[I", .methodLink RX8 68 yX8_childMany, .instanceMethod yX8_childMany, .selects RX8 yX8_childMany yX8_childMany, .initialized RX8, .code yX8_childMany cX8_childMany 4 (some .int), .methodLink RX8 155 yJxf58ca_floatToIntBits_5c35a, .static yJxf58ca_floatToIntBits_5c35a, .initialized RJxf58ca, .code yJxf58ca_floatToIntBits_5c35a cJxf58ca_floatToIntBits_5c35a 1 (some .int), .methodLink RJxf58ca 74 ⟨"java/lang/Float", "floatToRawIntBits", "(F)I"⟩, .native ⟨"java/lang/Float", "floatToRawIntBits", "(F)I"⟩, .static ⟨"java/lang/Float", "floatToRawIntBits", "(F)I"⟩, .initialized "java/lang/Float", .constant RJxf58ca 77 (2143289344), .methodLink RJxf58ca 59 yJxf58ca_isNaN_12338, .static yJxf58ca_isNaN_12338, .code yJxf58ca_isNaN_12338 cJxf58ca_isNaN_12338 1 (some .boolean)] ++ wsX80)
def wsX8_worstAspect_r1 : List Cond := [Cond.methodLink RX8 149 yX8_lays, Cond.instanceMethod yX8_lays, Cond.selects RX8 yX8_lays yX8_lays, Cond.initialized RX8, Cond.code yX8_lays cX8_lays 3 none, Cond.fieldLink RX8 7 "TreemapLayoutModel" "now" "[I", Cond.fieldLink RX8 41 "TreemapLayoutModel" "allSizes" "[I", Cond.fieldLink RX8 37 "TreemapLayoutModel" "hidden" "[Z", Cond.methodLink RX8 86 yX8_sizeOf, Cond.instanceMethod yX8_sizeOf, Cond.selects RX8 yX8_sizeOf yX8_sizeOf, Cond.code yX8_sizeOf cX8_sizeOf 4 (some .int), Cond.methodLink RX8 68 yX8_childMany, Cond.instanceMethod yX8_childMany, Cond.selects RX8 yX8_childMany yX8_childMany, Cond.code yX8_childMany cX8_childMany 4 (some .int), Cond.methodLink RX8 71 yX8_isUnder, Cond.instanceMethod yX8_isUnder, Cond.selects RX8 yX8_isUnder yX8_isUnder, Cond.code yX8_isUnder cX8_isUnder 4 (some .boolean), Cond.methodLink RX8 106 yX8_puts, Cond.instanceMethod yX8_puts, Cond.selects RX8 yX8_puts yX8_puts, Cond.code yX8_puts cX8_puts 6 none]
def wsX8_worstAspect_r2 : List Cond := [Cond.fieldLink RX8 25 "TreemapLayoutModel" "xs" "[I", Cond.fieldLink RX8 28 "TreemapLayoutModel" "ys" "[I", Cond.fieldLink RX8 31 "TreemapLayoutModel" "wides" "[I", Cond.fieldLink RX8 34 "TreemapLayoutModel" "highs" "[I", Cond.methodLink RX8 89 yX8_depthOf, Cond.instanceMethod yX8_depthOf, Cond.selects RX8 yX8_depthOf yX8_depthOf, Cond.code yX8_depthOf cX8_depthOf 4 (some .int), Cond.methodLink RX8 146 yX8_laysUnder, Cond.instanceMethod yX8_laysUnder, Cond.selects RX8 yX8_laysUnder yX8_laysUnder, Cond.code yX8_laysUnder cX8_laysUnder 8 none, Cond.fieldLink RX8 96 "TreemapLayoutModel" "many" "I", Cond.fieldLink RX8 44 "TreemapLayoutModel" "children" "[I", Cond.methodLink RX8 135 yX8_laysChildren, Cond.instanceMethod yX8_laysChildren, Cond.selects RX8 yX8_laysChildren yX8_laysChildren, Cond.code yX8_laysChildren cX8_laysChildren 3 none, Cond.methodLink RX8 121 yX8_laysRow, Cond.instanceMethod yX8_laysRow, Cond.selects RX8 yX8_laysRow yX8_laysRow, Cond.code yX8_laysRow cX8_laysRow 11 none, Cond.fieldLink RX8 22 "TreemapLayoutModel" "lengths" "[I", Cond.methodLink RX8 99 yX8_laysSizes]
def wsX8_worstAspect_r3 : List Cond := [Cond.instanceMethod yX8_laysSizes, Cond.selects RX8 yX8_laysSizes yX8_laysSizes, Cond.code yX8_laysSizes cX8_laysSizes 4 none, Cond.fieldLink RX8 19 "TreemapLayoutModel" "sizes" "[I", Cond.methodLink RX8 103 yX8_parts, Cond.instanceMethod yX8_parts, Cond.selects RX8 yX8_parts yX8_parts, Cond.code yX8_parts cX8_parts 9 none, Cond.methodLink RX8 139 yX8_laysStrips, Cond.instanceMethod yX8_laysStrips, Cond.selects RX8 yX8_laysStrips yX8_laysStrips, Cond.code yX8_laysStrips cX8_laysStrips 10 none, Cond.fieldLink RX8 47 "TreemapLayoutModel" "strips" "[I", Cond.fieldLink RX8 50 "TreemapLayoutModel" "heights" "[I", Cond.methodLink RX8 117 yX8_average, Cond.instanceMethod yX8_average, Cond.selects RX8 yX8_average yX8_average, Cond.code yX8_average cX8_average 7 (some .float), Cond.methodLink RX8 113 yX8_aspect, Cond.instanceMethod yX8_aspect, Cond.selects RX8 yX8_aspect yX8_aspect, Cond.code yX8_aspect cX8_aspect 10 (some .float), Cond.methodLink RX8 110 yX8_sumOf, Cond.instanceMethod yX8_sumOf]
def wsX8_worstAspect_r4 : List Cond := [Cond.selects RX8 yX8_sumOf yX8_sumOf, Cond.code yX8_sumOf cX8_sumOf 5 (some .int), Cond.methodLink RX8 142 yX8_laysSquares, Cond.instanceMethod yX8_laysSquares, Cond.selects RX8 yX8_laysSquares yX8_laysSquares, Cond.code yX8_laysSquares cX8_laysSquares 16 none, Cond.methodLink RX8 128 yX8_sorts, Cond.instanceMethod yX8_sorts, Cond.selects RX8 yX8_sorts yX8_sorts, Cond.code yX8_sorts cX8_sorts 4 none, Cond.methodLink RX8 131 yX8_rowOf, Cond.instanceMethod yX8_rowOf, Cond.selects RX8 yX8_rowOf yX8_rowOf, Cond.code yX8_rowOf cX8_rowOf 5 (some .int), Cond.methodLink RX8 125 yX8_worst, Cond.instanceMethod yX8_worst, Cond.selects RX8 yX8_worst yX8_worst, Cond.code yX8_worst cX8_worst 8 (some .float), Cond.methodLink RX8 161 yX8_aspects, Cond.instanceMethod yX8_aspects, Cond.selects RX8 yX8_aspects yX8_aspects, Cond.code yX8_aspects cX8_aspects 9 (some .int), Cond.methodLink RX8 155 yJxf58ca_floatToIntBits_5c35a, Cond.static yJxf58ca_floatToIntBits_5c35a]
def wsX8_worstAspect_r5 : List Cond := [Cond.initialized RJxf58ca, Cond.code yJxf58ca_floatToIntBits_5c35a cJxf58ca_floatToIntBits_5c35a 1 (some .int), Cond.methodLink RJxf58ca 74 ⟨"java/lang/Float", "floatToRawIntBits", "(F)I"⟩, Cond.native ⟨"java/lang/Float", "floatToRawIntBits", "(F)I"⟩, Cond.static ⟨"java/lang/Float", "floatToRawIntBits", "(F)I"⟩, Cond.initialized "java/lang/Float", Cond.constant RJxf58ca 77 (2143289344), Cond.methodLink RJxf58ca 59 yJxf58ca_isNaN_12338, Cond.static yJxf58ca_isNaN_12338, Cond.code yJxf58ca_isNaN_12338 cJxf58ca_isNaN_12338 1 (some .boolean)]
def wsX8_worstAspect : List Cond := .code yX8_worstAspect cX8_worstAspect 1 (some .int) :: ((wsX8_worstAspect_r1 ++ (wsX8_worstAspect_r2 ++ (wsX8_worstAspect_r3 ++ (wsX8_worstAspect_r4 ++ wsX8_worstAspect_r5)))) ++ wsX80)
def wsX8_averageAspect_r1 : List Cond := [Cond.methodLink RX8 149 yX8_lays, Cond.instanceMethod yX8_lays, Cond.selects RX8 yX8_lays yX8_lays, Cond.initialized RX8, Cond.code yX8_lays cX8_lays 3 none, Cond.fieldLink RX8 7 "TreemapLayoutModel" "now" "[I", Cond.fieldLink RX8 41 "TreemapLayoutModel" "allSizes" "[I", Cond.fieldLink RX8 37 "TreemapLayoutModel" "hidden" "[Z", Cond.methodLink RX8 86 yX8_sizeOf, Cond.instanceMethod yX8_sizeOf, Cond.selects RX8 yX8_sizeOf yX8_sizeOf, Cond.code yX8_sizeOf cX8_sizeOf 4 (some .int), Cond.methodLink RX8 68 yX8_childMany, Cond.instanceMethod yX8_childMany, Cond.selects RX8 yX8_childMany yX8_childMany, Cond.code yX8_childMany cX8_childMany 4 (some .int), Cond.methodLink RX8 71 yX8_isUnder, Cond.instanceMethod yX8_isUnder, Cond.selects RX8 yX8_isUnder yX8_isUnder, Cond.code yX8_isUnder cX8_isUnder 4 (some .boolean), Cond.methodLink RX8 106 yX8_puts, Cond.instanceMethod yX8_puts, Cond.selects RX8 yX8_puts yX8_puts, Cond.code yX8_puts cX8_puts 6 none]
def wsX8_averageAspect_r2 : List Cond := [Cond.fieldLink RX8 25 "TreemapLayoutModel" "xs" "[I", Cond.fieldLink RX8 28 "TreemapLayoutModel" "ys" "[I", Cond.fieldLink RX8 31 "TreemapLayoutModel" "wides" "[I", Cond.fieldLink RX8 34 "TreemapLayoutModel" "highs" "[I", Cond.methodLink RX8 89 yX8_depthOf, Cond.instanceMethod yX8_depthOf, Cond.selects RX8 yX8_depthOf yX8_depthOf, Cond.code yX8_depthOf cX8_depthOf 4 (some .int), Cond.methodLink RX8 146 yX8_laysUnder, Cond.instanceMethod yX8_laysUnder, Cond.selects RX8 yX8_laysUnder yX8_laysUnder, Cond.code yX8_laysUnder cX8_laysUnder 8 none, Cond.fieldLink RX8 96 "TreemapLayoutModel" "many" "I", Cond.fieldLink RX8 44 "TreemapLayoutModel" "children" "[I", Cond.methodLink RX8 135 yX8_laysChildren, Cond.instanceMethod yX8_laysChildren, Cond.selects RX8 yX8_laysChildren yX8_laysChildren, Cond.code yX8_laysChildren cX8_laysChildren 3 none, Cond.methodLink RX8 121 yX8_laysRow, Cond.instanceMethod yX8_laysRow, Cond.selects RX8 yX8_laysRow yX8_laysRow, Cond.code yX8_laysRow cX8_laysRow 11 none, Cond.fieldLink RX8 22 "TreemapLayoutModel" "lengths" "[I", Cond.methodLink RX8 99 yX8_laysSizes]
def wsX8_averageAspect_r3 : List Cond := [Cond.instanceMethod yX8_laysSizes, Cond.selects RX8 yX8_laysSizes yX8_laysSizes, Cond.code yX8_laysSizes cX8_laysSizes 4 none, Cond.fieldLink RX8 19 "TreemapLayoutModel" "sizes" "[I", Cond.methodLink RX8 103 yX8_parts, Cond.instanceMethod yX8_parts, Cond.selects RX8 yX8_parts yX8_parts, Cond.code yX8_parts cX8_parts 9 none, Cond.methodLink RX8 139 yX8_laysStrips, Cond.instanceMethod yX8_laysStrips, Cond.selects RX8 yX8_laysStrips yX8_laysStrips, Cond.code yX8_laysStrips cX8_laysStrips 10 none, Cond.fieldLink RX8 47 "TreemapLayoutModel" "strips" "[I", Cond.fieldLink RX8 50 "TreemapLayoutModel" "heights" "[I", Cond.methodLink RX8 117 yX8_average, Cond.instanceMethod yX8_average, Cond.selects RX8 yX8_average yX8_average, Cond.code yX8_average cX8_average 7 (some .float), Cond.methodLink RX8 113 yX8_aspect, Cond.instanceMethod yX8_aspect, Cond.selects RX8 yX8_aspect yX8_aspect, Cond.code yX8_aspect cX8_aspect 10 (some .float), Cond.methodLink RX8 110 yX8_sumOf, Cond.instanceMethod yX8_sumOf]
def wsX8_averageAspect_r4 : List Cond := [Cond.selects RX8 yX8_sumOf yX8_sumOf, Cond.code yX8_sumOf cX8_sumOf 5 (some .int), Cond.methodLink RX8 142 yX8_laysSquares, Cond.instanceMethod yX8_laysSquares, Cond.selects RX8 yX8_laysSquares yX8_laysSquares, Cond.code yX8_laysSquares cX8_laysSquares 16 none, Cond.methodLink RX8 128 yX8_sorts, Cond.instanceMethod yX8_sorts, Cond.selects RX8 yX8_sorts yX8_sorts, Cond.code yX8_sorts cX8_sorts 4 none, Cond.methodLink RX8 131 yX8_rowOf, Cond.instanceMethod yX8_rowOf, Cond.selects RX8 yX8_rowOf yX8_rowOf, Cond.code yX8_rowOf cX8_rowOf 5 (some .int), Cond.methodLink RX8 125 yX8_worst, Cond.instanceMethod yX8_worst, Cond.selects RX8 yX8_worst yX8_worst, Cond.code yX8_worst cX8_worst 8 (some .float), Cond.methodLink RX8 161 yX8_aspects, Cond.instanceMethod yX8_aspects, Cond.selects RX8 yX8_aspects yX8_aspects, Cond.code yX8_aspects cX8_aspects 9 (some .int), Cond.methodLink RX8 155 yJxf58ca_floatToIntBits_5c35a, Cond.static yJxf58ca_floatToIntBits_5c35a]
def wsX8_averageAspect_r5 : List Cond := [Cond.initialized RJxf58ca, Cond.code yJxf58ca_floatToIntBits_5c35a cJxf58ca_floatToIntBits_5c35a 1 (some .int), Cond.methodLink RJxf58ca 74 ⟨"java/lang/Float", "floatToRawIntBits", "(F)I"⟩, Cond.native ⟨"java/lang/Float", "floatToRawIntBits", "(F)I"⟩, Cond.static ⟨"java/lang/Float", "floatToRawIntBits", "(F)I"⟩, Cond.initialized "java/lang/Float", Cond.constant RJxf58ca 77 (2143289344), Cond.methodLink RJxf58ca 59 yJxf58ca_isNaN_12338, Cond.static yJxf58ca_isNaN_12338, Cond.code yJxf58ca_isNaN_12338 cJxf58ca_isNaN_12338 1 (some .boolean)]
def wsX8_averageAspect : List Cond := .code yX8_averageAspect cX8_averageAspect 1 (some .int) :: ((wsX8_averageAspect_r1 ++ (wsX8_averageAspect_r2 ++ (wsX8_averageAspect_r3 ++ (wsX8_averageAspect_r4 ++ wsX8_averageAspect_r5)))) ++ wsX80)
def wsX8_far : List Cond := .code yX8_far cX8_far 1 (some .int) :: ([])
def wsX8_changeBy_r1 : List Cond := [Cond.fieldLink RX8 7 "TreemapLayoutModel" "now" "[I", Cond.fieldLink RX8 53 "TreemapLayoutModel" "before" "[I", Cond.fieldLink RX8 25 "TreemapLayoutModel" "xs" "[I", Cond.fieldLink RX8 28 "TreemapLayoutModel" "ys" "[I", Cond.fieldLink RX8 31 "TreemapLayoutModel" "wides" "[I", Cond.fieldLink RX8 34 "TreemapLayoutModel" "highs" "[I", Cond.methodLink RX8 75 yX8_isNode, Cond.instanceMethod yX8_isNode, Cond.selects RX8 yX8_isNode yX8_isNode, Cond.initialized RX8, Cond.code yX8_isNode cX8_isNode 2 (some .boolean), Cond.methodLink RX8 56 yX8_within, Cond.static yX8_within, Cond.code yX8_within cX8_within 3 (some .boolean), Cond.methodLink RX8 64 yX8_fails, Cond.instanceMethod yX8_fails, Cond.selects RX8 yX8_fails yX8_fails, Cond.code yX8_fails cX8_fails 2 (some .int), Cond.fieldLink RX8 16 "TreemapLayoutModel" "errors" "[I", Cond.methodLink RX8 149 yX8_lays, Cond.instanceMethod yX8_lays, Cond.selects RX8 yX8_lays yX8_lays, Cond.code yX8_lays cX8_lays 3 none, Cond.fieldLink RX8 41 "TreemapLayoutModel" "allSizes" "[I"]
def wsX8_changeBy_r2 : List Cond := [Cond.fieldLink RX8 37 "TreemapLayoutModel" "hidden" "[Z", Cond.methodLink RX8 86 yX8_sizeOf, Cond.instanceMethod yX8_sizeOf, Cond.selects RX8 yX8_sizeOf yX8_sizeOf, Cond.code yX8_sizeOf cX8_sizeOf 4 (some .int), Cond.methodLink RX8 68 yX8_childMany, Cond.instanceMethod yX8_childMany, Cond.selects RX8 yX8_childMany yX8_childMany, Cond.code yX8_childMany cX8_childMany 4 (some .int), Cond.methodLink RX8 71 yX8_isUnder, Cond.instanceMethod yX8_isUnder, Cond.selects RX8 yX8_isUnder yX8_isUnder, Cond.code yX8_isUnder cX8_isUnder 4 (some .boolean), Cond.methodLink RX8 106 yX8_puts, Cond.instanceMethod yX8_puts, Cond.selects RX8 yX8_puts yX8_puts, Cond.code yX8_puts cX8_puts 6 none, Cond.methodLink RX8 89 yX8_depthOf, Cond.instanceMethod yX8_depthOf, Cond.selects RX8 yX8_depthOf yX8_depthOf, Cond.code yX8_depthOf cX8_depthOf 4 (some .int), Cond.methodLink RX8 146 yX8_laysUnder, Cond.instanceMethod yX8_laysUnder, Cond.selects RX8 yX8_laysUnder yX8_laysUnder]
def wsX8_changeBy_r3 : List Cond := [Cond.code yX8_laysUnder cX8_laysUnder 8 none, Cond.fieldLink RX8 96 "TreemapLayoutModel" "many" "I", Cond.fieldLink RX8 44 "TreemapLayoutModel" "children" "[I", Cond.methodLink RX8 135 yX8_laysChildren, Cond.instanceMethod yX8_laysChildren, Cond.selects RX8 yX8_laysChildren yX8_laysChildren, Cond.code yX8_laysChildren cX8_laysChildren 3 none, Cond.methodLink RX8 121 yX8_laysRow, Cond.instanceMethod yX8_laysRow, Cond.selects RX8 yX8_laysRow yX8_laysRow, Cond.code yX8_laysRow cX8_laysRow 11 none, Cond.fieldLink RX8 22 "TreemapLayoutModel" "lengths" "[I", Cond.methodLink RX8 99 yX8_laysSizes, Cond.instanceMethod yX8_laysSizes, Cond.selects RX8 yX8_laysSizes yX8_laysSizes, Cond.code yX8_laysSizes cX8_laysSizes 4 none, Cond.fieldLink RX8 19 "TreemapLayoutModel" "sizes" "[I", Cond.methodLink RX8 103 yX8_parts, Cond.instanceMethod yX8_parts, Cond.selects RX8 yX8_parts yX8_parts, Cond.code yX8_parts cX8_parts 9 none, Cond.methodLink RX8 139 yX8_laysStrips, Cond.instanceMethod yX8_laysStrips, Cond.selects RX8 yX8_laysStrips yX8_laysStrips]
def wsX8_changeBy_r4 : List Cond := [Cond.code yX8_laysStrips cX8_laysStrips 10 none, Cond.fieldLink RX8 47 "TreemapLayoutModel" "strips" "[I", Cond.fieldLink RX8 50 "TreemapLayoutModel" "heights" "[I", Cond.methodLink RX8 117 yX8_average, Cond.instanceMethod yX8_average, Cond.selects RX8 yX8_average yX8_average, Cond.code yX8_average cX8_average 7 (some .float), Cond.methodLink RX8 113 yX8_aspect, Cond.instanceMethod yX8_aspect, Cond.selects RX8 yX8_aspect yX8_aspect, Cond.code yX8_aspect cX8_aspect 10 (some .float), Cond.methodLink RX8 110 yX8_sumOf, Cond.instanceMethod yX8_sumOf, Cond.selects RX8 yX8_sumOf yX8_sumOf, Cond.code yX8_sumOf cX8_sumOf 5 (some .int), Cond.methodLink RX8 142 yX8_laysSquares, Cond.instanceMethod yX8_laysSquares, Cond.selects RX8 yX8_laysSquares yX8_laysSquares, Cond.code yX8_laysSquares cX8_laysSquares 16 none, Cond.methodLink RX8 128 yX8_sorts, Cond.instanceMethod yX8_sorts, Cond.selects RX8 yX8_sorts yX8_sorts, Cond.code yX8_sorts cX8_sorts 4 none, Cond.methodLink RX8 131 yX8_rowOf]
def wsX8_changeBy_r5 : List Cond := [Cond.instanceMethod yX8_rowOf, Cond.selects RX8 yX8_rowOf yX8_rowOf, Cond.code yX8_rowOf cX8_rowOf 5 (some .int), Cond.methodLink RX8 125 yX8_worst, Cond.instanceMethod yX8_worst, Cond.selects RX8 yX8_worst yX8_worst, Cond.code yX8_worst cX8_worst 8 (some .float), Cond.methodLink RX8 165 yX8_far, Cond.static yX8_far, Cond.code yX8_far cX8_far 1 (some .int)]
def wsX8_changeBy : List Cond := .code yX8_changeBy cX8_changeBy 6 (some .int) :: ((wsX8_changeBy_r1 ++ (wsX8_changeBy_r2 ++ (wsX8_changeBy_r3 ++ (wsX8_changeBy_r4 ++ wsX8_changeBy_r5)))) ++ wsX80)
def wsX8_errorCount : List Cond := .code yX8_errorCount cX8_errorCount 2 (some .int) :: ([.fieldLink RX8 16 "TreemapLayoutModel" "errors" "[I", .methodLink RX8 56 yX8_within, .static yX8_within, .initialized RX8, .code yX8_within cX8_within 3 (some .boolean), .methodLink RX8 64 yX8_fails, .instanceMethod yX8_fails, .selects RX8 yX8_fails yX8_fails, .code yX8_fails cX8_fails 2 (some .int)] ++ wsX80)
def wsX8_mix : List Cond := .code yX8_mix cX8_mix 2 none :: ([.constantLong RX8 168 (31), .fieldLink RX8 170 "TreemapLayoutModel" "hash" "J"] ++ wsX80)
def wsX8_digest_r1 : List Cond := [Cond.constantLong RX8 174 (11759), Cond.fieldLink RX8 170 "TreemapLayoutModel" "hash" "J", Cond.fieldLink RX8 16 "TreemapLayoutModel" "errors" "[I", Cond.fieldLink RX8 60 "TreemapLayoutModel" "saved" "I", Cond.fieldLink RX8 7 "TreemapLayoutModel" "now" "[I", Cond.fieldLink RX8 41 "TreemapLayoutModel" "allSizes" "[I", Cond.fieldLink RX8 25 "TreemapLayoutModel" "xs" "[I", Cond.fieldLink RX8 28 "TreemapLayoutModel" "ys" "[I", Cond.fieldLink RX8 31 "TreemapLayoutModel" "wides" "[I", Cond.fieldLink RX8 34 "TreemapLayoutModel" "highs" "[I", Cond.fieldLink RX8 37 "TreemapLayoutModel" "hidden" "[Z", Cond.methodLink RX8 176 yX8_mix, Cond.instanceMethod yX8_mix, Cond.selects RX8 yX8_mix yX8_mix, Cond.initialized RX8, Cond.code yX8_mix cX8_mix 2 none, Cond.constantLong RX8 168 (31), Cond.methodLink RX8 149 yX8_lays, Cond.instanceMethod yX8_lays, Cond.selects RX8 yX8_lays yX8_lays, Cond.code yX8_lays cX8_lays 3 none, Cond.methodLink RX8 86 yX8_sizeOf, Cond.instanceMethod yX8_sizeOf, Cond.selects RX8 yX8_sizeOf yX8_sizeOf]
def wsX8_digest_r2 : List Cond := [Cond.code yX8_sizeOf cX8_sizeOf 4 (some .int), Cond.methodLink RX8 68 yX8_childMany, Cond.instanceMethod yX8_childMany, Cond.selects RX8 yX8_childMany yX8_childMany, Cond.code yX8_childMany cX8_childMany 4 (some .int), Cond.methodLink RX8 71 yX8_isUnder, Cond.instanceMethod yX8_isUnder, Cond.selects RX8 yX8_isUnder yX8_isUnder, Cond.code yX8_isUnder cX8_isUnder 4 (some .boolean), Cond.methodLink RX8 106 yX8_puts, Cond.instanceMethod yX8_puts, Cond.selects RX8 yX8_puts yX8_puts, Cond.code yX8_puts cX8_puts 6 none, Cond.methodLink RX8 89 yX8_depthOf, Cond.instanceMethod yX8_depthOf, Cond.selects RX8 yX8_depthOf yX8_depthOf, Cond.code yX8_depthOf cX8_depthOf 4 (some .int), Cond.methodLink RX8 146 yX8_laysUnder, Cond.instanceMethod yX8_laysUnder, Cond.selects RX8 yX8_laysUnder yX8_laysUnder, Cond.code yX8_laysUnder cX8_laysUnder 8 none, Cond.fieldLink RX8 96 "TreemapLayoutModel" "many" "I", Cond.fieldLink RX8 44 "TreemapLayoutModel" "children" "[I", Cond.methodLink RX8 135 yX8_laysChildren]
def wsX8_digest_r3 : List Cond := [Cond.instanceMethod yX8_laysChildren, Cond.selects RX8 yX8_laysChildren yX8_laysChildren, Cond.code yX8_laysChildren cX8_laysChildren 3 none, Cond.methodLink RX8 121 yX8_laysRow, Cond.instanceMethod yX8_laysRow, Cond.selects RX8 yX8_laysRow yX8_laysRow, Cond.code yX8_laysRow cX8_laysRow 11 none, Cond.fieldLink RX8 22 "TreemapLayoutModel" "lengths" "[I", Cond.methodLink RX8 99 yX8_laysSizes, Cond.instanceMethod yX8_laysSizes, Cond.selects RX8 yX8_laysSizes yX8_laysSizes, Cond.code yX8_laysSizes cX8_laysSizes 4 none, Cond.fieldLink RX8 19 "TreemapLayoutModel" "sizes" "[I", Cond.methodLink RX8 103 yX8_parts, Cond.instanceMethod yX8_parts, Cond.selects RX8 yX8_parts yX8_parts, Cond.code yX8_parts cX8_parts 9 none, Cond.methodLink RX8 139 yX8_laysStrips, Cond.instanceMethod yX8_laysStrips, Cond.selects RX8 yX8_laysStrips yX8_laysStrips, Cond.code yX8_laysStrips cX8_laysStrips 10 none, Cond.fieldLink RX8 47 "TreemapLayoutModel" "strips" "[I", Cond.fieldLink RX8 50 "TreemapLayoutModel" "heights" "[I", Cond.methodLink RX8 117 yX8_average]
def wsX8_digest_r4 : List Cond := [Cond.instanceMethod yX8_average, Cond.selects RX8 yX8_average yX8_average, Cond.code yX8_average cX8_average 7 (some .float), Cond.methodLink RX8 113 yX8_aspect, Cond.instanceMethod yX8_aspect, Cond.selects RX8 yX8_aspect yX8_aspect, Cond.code yX8_aspect cX8_aspect 10 (some .float), Cond.methodLink RX8 110 yX8_sumOf, Cond.instanceMethod yX8_sumOf, Cond.selects RX8 yX8_sumOf yX8_sumOf, Cond.code yX8_sumOf cX8_sumOf 5 (some .int), Cond.methodLink RX8 142 yX8_laysSquares, Cond.instanceMethod yX8_laysSquares, Cond.selects RX8 yX8_laysSquares yX8_laysSquares, Cond.code yX8_laysSquares cX8_laysSquares 16 none, Cond.methodLink RX8 128 yX8_sorts, Cond.instanceMethod yX8_sorts, Cond.selects RX8 yX8_sorts yX8_sorts, Cond.code yX8_sorts cX8_sorts 4 none, Cond.methodLink RX8 131 yX8_rowOf, Cond.instanceMethod yX8_rowOf, Cond.selects RX8 yX8_rowOf yX8_rowOf, Cond.code yX8_rowOf cX8_rowOf 5 (some .int), Cond.methodLink RX8 125 yX8_worst]
def wsX8_digest_r5 : List Cond := [Cond.instanceMethod yX8_worst, Cond.selects RX8 yX8_worst yX8_worst, Cond.code yX8_worst cX8_worst 8 (some .float), Cond.methodLink RX8 152 yX8_pixels, Cond.instanceMethod yX8_pixels, Cond.selects RX8 yX8_pixels yX8_pixels, Cond.code yX8_pixels cX8_pixels 3 (some .int), Cond.methodLink RX8 161 yX8_aspects, Cond.instanceMethod yX8_aspects, Cond.selects RX8 yX8_aspects yX8_aspects, Cond.code yX8_aspects cX8_aspects 9 (some .int), Cond.methodLink RX8 155 yJxf58ca_floatToIntBits_5c35a, Cond.static yJxf58ca_floatToIntBits_5c35a, Cond.initialized RJxf58ca, Cond.code yJxf58ca_floatToIntBits_5c35a cJxf58ca_floatToIntBits_5c35a 1 (some .int), Cond.methodLink RJxf58ca 74 ⟨"java/lang/Float", "floatToRawIntBits", "(F)I"⟩, Cond.native ⟨"java/lang/Float", "floatToRawIntBits", "(F)I"⟩, Cond.static ⟨"java/lang/Float", "floatToRawIntBits", "(F)I"⟩, Cond.initialized "java/lang/Float", Cond.constant RJxf58ca 77 (2143289344), Cond.methodLink RJxf58ca 59 yJxf58ca_isNaN_12338, Cond.static yJxf58ca_isNaN_12338, Cond.code yJxf58ca_isNaN_12338 cJxf58ca_isNaN_12338 1 (some .boolean)]
def wsX8_digest : List Cond := .code yX8_digest cX8_digest 2 (some .long) :: ((wsX8_digest_r1 ++ (wsX8_digest_r2 ++ (wsX8_digest_r3 ++ (wsX8_digest_r4 ++ wsX8_digest_r5)))) ++ wsX80)
def wsJ9_abs_0f7a4 : List Cond := .code yJ9_abs_0f7a4 cJ9_abs_0f7a4 1 (some .int) :: ([])
def wsJ9_max_7cf53 : List Cond := .code yJ9_max_7cf53 cJ9_max_7cf53 2 (some .int) :: ([])
def wsJ9_min_7cf53 : List Cond := .code yJ9_min_7cf53 cJ9_min_7cf53 2 (some .int) :: ([])
def wsL_law_r1 : List Cond := [Cond.classLink RL 7 RX7, Cond.instantiable RX7 8, Cond.initialized RX7, Cond.classLink RL 10 RX8, Cond.instantiable RX8 18, Cond.initialized RX8, Cond.methodLink RL 9 yX7_init, Cond.instanceMethod yX7_init, Cond.code yX7_init cX7_init 1 none, Cond.methodLink RX7 1 objectInit, Cond.instanceMethod objectInit, Cond.code objectInit ⟨#[0xb1]⟩ 1 none, Cond.classLink RX7 7 RX5, Cond.instantiable RX5 7, Cond.initialized RX5, Cond.fieldLink RX7 10 "TreemapLayout" "state" "LTreemapLayout$State;", Cond.classLink RX7 16 RX1, Cond.instantiable RX1 8, Cond.initialized RX1, Cond.fieldLink RX7 19 "TreemapLayout" "layout" "LTreemapLayout$Layout;", Cond.classLink RX7 23 RX6, Cond.instantiable RX6 3, Cond.initialized RX6, Cond.fieldLink RX7 26 "TreemapLayout" "saved" "LTreemapLayout$UndoStack;"]
def wsL_law_r2 : List Cond := [Cond.fieldLink RX7 30 "TreemapLayout" "trialState" "LTreemapLayout$State;", Cond.fieldLink RX7 33 "TreemapLayout" "trialLayout" "LTreemapLayout$Layout;", Cond.methodLink RX7 9 yX5_init, Cond.instanceMethod yX5_init, Cond.code yX5_init cX5_init 1 none, Cond.methodLink RX5 3 objectInit, Cond.arrayClass .int, Cond.fieldLink RX5 9 "TreemapLayout$State" "ownSizes" "[I", Cond.fieldLink RX5 15 "TreemapLayout$State" "parents" "[I", Cond.fieldLink RX5 18 "TreemapLayout$State" "count" "I", Cond.fieldLink RX5 22 "TreemapLayout$State" "canvasWidth" "I", Cond.fieldLink RX5 25 "TreemapLayout$State" "canvasHeight" "I", Cond.fieldLink RX5 28 "TreemapLayout$State" "padding" "I", Cond.fieldLink RX5 31 "TreemapLayout$State" "mode" "I", Cond.instanceMethod yX1_init, Cond.code yX1_init cX1_init 1 none, Cond.methodLink RX1 3 objectInit, Cond.fieldLink RX1 9 "TreemapLayout$Layout" "sizes" "[I", Cond.fieldLink RX1 15 "TreemapLayout$Layout" "depths" "[I", Cond.arrayClass .boolean, Cond.fieldLink RX1 18 "TreemapLayout$Layout" "hidden" "[Z", Cond.classLink RX1 22 RX3, Cond.instantiable RX3 4, Cond.initialized RX3]
def wsL_law_r3 : List Cond := [Cond.fieldLink RX1 25 "TreemapLayout$Layout" "rects" "LTreemapLayout$Rects;", Cond.fieldLink RX1 29 "TreemapLayout$Layout" "order" "[I", Cond.fieldLink RX1 32 "TreemapLayout$Layout" "firstChildren" "[I", Cond.fieldLink RX1 35 "TreemapLayout$Layout" "childCounts" "[I", Cond.classLink RX1 38 RX2, Cond.instantiable RX2 8, Cond.initialized RX2, Cond.fieldLink RX1 41 "TreemapLayout$Layout" "placer" "LTreemapLayout$Placer;", Cond.instanceMethod yX3_init, Cond.code yX3_init cX3_init 1 none, Cond.methodLink RX3 3 objectInit, Cond.fieldLink RX3 9 "TreemapLayout$Rects" "lefts" "[I", Cond.fieldLink RX3 15 "TreemapLayout$Rects" "tops" "[I", Cond.fieldLink RX3 18 "TreemapLayout$Rects" "widths" "[I", Cond.fieldLink RX3 21 "TreemapLayout$Rects" "heights" "[I", Cond.instanceMethod yX2_init, Cond.code yX2_init cX2_init 1 none, Cond.methodLink RX2 3 objectInit, Cond.fieldLink RX2 9 "TreemapLayout$Placer" "kids" "[I", Cond.fieldLink RX2 15 "TreemapLayout$Placer" "kidSizes" "[I", Cond.classLink RX2 18 RX0, Cond.instantiable RX0 4, Cond.initialized RX0, Cond.fieldLink RX2 21 "TreemapLayout$Placer" "free" "LTreemapLayout$Box;"]
def wsL_law_r4 : List Cond := [Cond.fieldLink RX2 25 "TreemapLayout$Placer" "band" "LTreemapLayout$Box;", Cond.classLink RX2 28 RX4, Cond.instantiable RX4 4, Cond.initialized RX4, Cond.fieldLink RX2 31 "TreemapLayout$Placer" "kidShares" "LTreemapLayout$Shares;", Cond.fieldLink RX2 35 "TreemapLayout$Placer" "stripShares" "LTreemapLayout$Shares;", Cond.fieldLink RX2 38 "TreemapLayout$Placer" "stripEnds" "[I", Cond.instanceMethod yX0_init, Cond.code yX0_init cX0_init 1 none, Cond.methodLink RX0 1 objectInit, Cond.instanceMethod yX4_init, Cond.code yX4_init cX4_init 1 none, Cond.methodLink RX4 3 objectInit, Cond.fieldLink RX4 9 "TreemapLayout$Shares" "partSizes" "[I", Cond.fieldLink RX4 15 "TreemapLayout$Shares" "remainders" "[I", Cond.fieldLink RX4 18 "TreemapLayout$Shares" "pixels" "[I", Cond.methodLink RX7 25 yX6_init, Cond.instanceMethod yX6_init, Cond.code yX6_init cX6_init 2 none, Cond.methodLink RX6 3 objectInit, Cond.classLink RX6 9 RX5, Cond.fieldLink RX6 11 "TreemapLayout$UndoStack" "slots" "[LTreemapLayout$State;", Cond.methodLink RX6 17 yX5_init, Cond.methodLink RX7 36 yX1_arrange]
def wsL_law_r5 : List Cond := [Cond.instanceMethod yX1_arrange, Cond.selects RX1 yX1_arrange yX1_arrange, Cond.code yX1_arrange cX1_arrange 3 none, Cond.fieldLink RX1 60 "TreemapLayout$State" "canvasWidth" "I", Cond.fieldLink RX1 66 "TreemapLayout$State" "canvasHeight" "I", Cond.fieldLink RX1 73 "TreemapLayout$State" "count" "I", Cond.methodLink RX1 53 yX1_orderNodes, Cond.instanceMethod yX1_orderNodes, Cond.selects RX1 yX1_orderNodes yX1_orderNodes, Cond.code yX1_orderNodes cX1_orderNodes 6 none, Cond.fieldLink RX1 80 "TreemapLayout$State" "parents" "[I", Cond.methodLink RX1 57 yX1_sumSizes, Cond.instanceMethod yX1_sumSizes, Cond.selects RX1 yX1_sumSizes yX1_sumSizes, Cond.code yX1_sumSizes cX1_sumSizes 7 none, Cond.fieldLink RX1 83 "TreemapLayout$State" "ownSizes" "[I", Cond.methodLink RX1 45 yX1_isLeaf, Cond.instanceMethod yX1_isLeaf, Cond.selects RX1 yX1_isLeaf yX1_isLeaf, Cond.code yX1_isLeaf cX1_isLeaf 2 (some .boolean), Cond.methodLink RX1 69 yX3_put, Cond.instanceMethod yX3_put, Cond.selects RX3 yX3_put yX3_put, Cond.code yX3_put cX3_put 6 none]
def wsL_law_r6 : List Cond := [Cond.methodLink RX1 76 yX1_placeChildren, Cond.instanceMethod yX1_placeChildren, Cond.selects RX1 yX1_placeChildren yX1_placeChildren, Cond.code yX1_placeChildren cX1_placeChildren 8 none, Cond.fieldLink RX1 86 "TreemapLayout$State" "padding" "I", Cond.fieldLink RX1 89 "TreemapLayout$Rects" "lefts" "[I", Cond.fieldLink RX1 92 "TreemapLayout$Rects" "tops" "[I", Cond.fieldLink RX1 95 "TreemapLayout$Rects" "widths" "[I", Cond.fieldLink RX1 98 "TreemapLayout$Rects" "heights" "[I", Cond.fieldLink RX1 113 "TreemapLayout$State" "mode" "I", Cond.methodLink RX1 101 yX2_open, Cond.instanceMethod yX2_open, Cond.selects RX2 yX2_open yX2_open, Cond.code yX2_open cX2_open 5 none, Cond.fieldLink RX2 41 "TreemapLayout$Placer" "kidCount" "I", Cond.methodLink RX2 45 yX0_set, Cond.instanceMethod yX0_set, Cond.selects RX0 yX0_set yX0_set, Cond.code yX0_set cX0_set 5 none, Cond.fieldLink RX0 7 "TreemapLayout$Box" "left" "I", Cond.fieldLink RX0 13 "TreemapLayout$Box" "top" "I", Cond.fieldLink RX0 16 "TreemapLayout$Box" "wide" "I", Cond.fieldLink RX0 19 "TreemapLayout$Box" "high" "I", Cond.methodLink RX1 105 yX2_hasNoRoom]
def wsL_law_r7 : List Cond := [Cond.instanceMethod yX2_hasNoRoom, Cond.selects RX2 yX2_hasNoRoom yX2_hasNoRoom, Cond.code yX2_hasNoRoom cX2_hasNoRoom 1 (some .boolean), Cond.methodLink RX2 49 yX0_isEmpty, Cond.instanceMethod yX0_isEmpty, Cond.selects RX0 yX0_isEmpty yX0_isEmpty, Cond.code yX0_isEmpty cX0_isEmpty 1 (some .boolean), Cond.methodLink RX1 109 yX2_add, Cond.instanceMethod yX2_add, Cond.selects RX2 yX2_add yX2_add, Cond.code yX2_add cX2_add 3 none, Cond.methodLink RX1 116 yX2_slice, Cond.instanceMethod yX2_slice, Cond.selects RX2 yX2_slice yX2_slice, Cond.code yX2_slice cX2_slice 3 none, Cond.fieldLink RX2 53 "TreemapLayout$Box" "left" "I", Cond.fieldLink RX2 56 "TreemapLayout$Box" "top" "I", Cond.fieldLink RX2 59 "TreemapLayout$Box" "wide" "I", Cond.fieldLink RX2 62 "TreemapLayout$Box" "high" "I", Cond.methodLink RX2 65 yX2_fillBand, Cond.instanceMethod yX2_fillBand, Cond.selects RX2 yX2_fillBand yX2_fillBand, Cond.code yX2_fillBand cX2_fillBand 8 none, Cond.fieldLink RX2 79 "TreemapLayout$Shares" "pixels" "[I"]
def wsL_law_r8 : List Cond := [Cond.methodLink RX2 86 yX4_clear, Cond.instanceMethod yX4_clear, Cond.selects RX4 yX4_clear yX4_clear, Cond.code yX4_clear cX4_clear 1 none, Cond.fieldLink RX4 21 "TreemapLayout$Shares" "count" "I", Cond.methodLink RX2 97 yX4_add, Cond.instanceMethod yX4_add, Cond.selects RX4 yX4_add yX4_add, Cond.code yX4_add cX4_add 2 none, Cond.methodLink RX2 72 yX4_apportion, Cond.instanceMethod yX4_apportion, Cond.selects RX4 yX4_apportion yX4_apportion, Cond.code yX4_apportion cX4_apportion 6 none, Cond.methodLink RX4 25 yX4_largestRemainder, Cond.instanceMethod yX4_largestRemainder, Cond.selects RX4 yX4_largestRemainder yX4_largestRemainder, Cond.code yX4_largestRemainder cX4_largestRemainder 3 (some .int), Cond.methodLink RX2 136 yX3_put, Cond.methodLink RX1 120 yX2_strip, Cond.instanceMethod yX2_strip, Cond.selects RX2 yX2_strip yX2_strip, Cond.code yX2_strip cX2_strip 5 none, Cond.fieldLink RX2 76 "TreemapLayout$Shares" "count" "I", Cond.methodLink RX2 69 yX2_splitIntoStrips]
def wsL_law_r9 : List Cond := [Cond.instanceMethod yX2_splitIntoStrips, Cond.selects RX2 yX2_splitIntoStrips yX2_splitIntoStrips, Cond.code yX2_splitIntoStrips cX2_splitIntoStrips 5 none, Cond.methodLink RX2 82 yX2_pixelsPerSize, Cond.instanceMethod yX2_pixelsPerSize, Cond.selects RX2 yX2_pixelsPerSize yX2_pixelsPerSize, Cond.code yX2_pixelsPerSize cX2_pixelsPerSize 3 (some .float), Cond.methodLink RX2 93 yX2_sumOfSizes, Cond.instanceMethod yX2_sumOfSizes, Cond.selects RX2 yX2_sumOfSizes yX2_sumOfSizes, Cond.code yX2_sumOfSizes cX2_sumOfSizes 5 (some .int), Cond.methodLink RX2 89 yX2_averageRatio, Cond.instanceMethod yX2_averageRatio, Cond.selects RX2 yX2_averageRatio yX2_averageRatio, Cond.code yX2_averageRatio cX2_averageRatio 7 (some .float), Cond.methodLink RX2 100 yX2_thicknessOf, Cond.static yX2_thicknessOf, Cond.code yX2_thicknessOf cX2_thicknessOf 3 (some .float), Cond.methodLink RX2 104 yX2_ratio, Cond.static yX2_ratio, Cond.code yX2_ratio cX2_ratio 6 (some .float), Cond.methodLink RX1 124 yX2_squarify, Cond.instanceMethod yX2_squarify, Cond.selects RX2 yX2_squarify yX2_squarify]
def wsL_law_r10 : List Cond := [Cond.code yX2_squarify cX2_squarify 6 none, Cond.methodLink RX2 108 yX2_sortByFallingSize, Cond.instanceMethod yX2_sortByFallingSize, Cond.selects RX2 yX2_sortByFallingSize yX2_sortByFallingSize, Cond.code yX2_sortByFallingSize cX2_sortByFallingSize 5 none, Cond.methodLink RX2 111 yX2_collapse, Cond.instanceMethod yX2_collapse, Cond.selects RX2 yX2_collapse yX2_collapse, Cond.code yX2_collapse cX2_collapse 4 none, Cond.methodLink RX2 115 yX2_endOfRow, Cond.instanceMethod yX2_endOfRow, Cond.selects RX2 yX2_endOfRow yX2_endOfRow, Cond.code yX2_endOfRow cX2_endOfRow 7 (some .int), Cond.methodLink RX2 123 Lib.Math.min.name, Cond.static Lib.Math.min.name, Cond.initialized "java/lang/Math", Cond.code Lib.Math.min.name Lib.Math.min.code 2 (some .int), Cond.methodLink RX2 128 yX2_worstRatio, Cond.instanceMethod yX2_worstRatio, Cond.selects RX2 yX2_worstRatio yX2_worstRatio, Cond.code yX2_worstRatio cX2_worstRatio 9 (some .float), Cond.methodLink RX2 119 yX2_cutBand, Cond.instanceMethod yX2_cutBand, Cond.selects RX2 yX2_cutBand yX2_cutBand]
def wsL_law_r11 : List Cond := [Cond.code yX2_cutBand cX2_cutBand 5 none, Cond.methodLink RX2 132 yX2_rowThickness, Cond.instanceMethod yX2_rowThickness, Cond.selects RX2 yX2_rowThickness yX2_rowThickness, Cond.code yX2_rowThickness cX2_rowThickness 5 (some .int), Cond.methodLink RL 12 yX8_init, Cond.instanceMethod yX8_init, Cond.code yX8_init cX8_init 1 none, Cond.methodLink RX8 1 objectInit, Cond.fieldLink RX8 7 "TreemapLayoutModel" "now" "[I", Cond.fieldLink RX8 13 "TreemapLayoutModel" "past" "[I", Cond.fieldLink RX8 16 "TreemapLayoutModel" "errors" "[I", Cond.fieldLink RX8 19 "TreemapLayoutModel" "sizes" "[I", Cond.fieldLink RX8 22 "TreemapLayoutModel" "lengths" "[I", Cond.fieldLink RX8 25 "TreemapLayoutModel" "xs" "[I", Cond.fieldLink RX8 28 "TreemapLayoutModel" "ys" "[I", Cond.fieldLink RX8 31 "TreemapLayoutModel" "wides" "[I", Cond.fieldLink RX8 34 "TreemapLayoutModel" "highs" "[I", Cond.fieldLink RX8 37 "TreemapLayoutModel" "hidden" "[Z", Cond.fieldLink RX8 41 "TreemapLayoutModel" "allSizes" "[I", Cond.fieldLink RX8 44 "TreemapLayoutModel" "children" "[I", Cond.fieldLink RX8 47 "TreemapLayoutModel" "strips" "[I", Cond.fieldLink RX8 50 "TreemapLayoutModel" "heights" "[I", Cond.fieldLink RX8 53 "TreemapLayoutModel" "before" "[I"]
def wsL_law_r12 : List Cond := [Cond.methodLink RL 13 yX7_addNode, Cond.instanceMethod yX7_addNode, Cond.selects RX7 yX7_addNode yX7_addNode, Cond.code yX7_addNode cX7_addNode 3 (some .int), Cond.fieldLink RX7 51 "TreemapLayout$State" "count" "I", Cond.methodLink RX7 40 yX5_has, Cond.instanceMethod yX5_has, Cond.selects RX5 yX5_has yX5_has, Cond.code yX5_has cX5_has 2 (some .boolean), Cond.methodLink RX7 44 yX7_isSize, Cond.static yX7_isSize, Cond.code yX7_isSize cX7_isSize 1 (some .boolean), Cond.methodLink RX7 47 yX7_failInvalid, Cond.instanceMethod yX7_failInvalid, Cond.selects RX7 yX7_failInvalid yX7_failInvalid, Cond.code yX7_failInvalid cX7_failInvalid 1 (some .int), Cond.fieldLink RX7 158 "TreemapLayout" "invalidCalls" "I", Cond.methodLink RX7 55 yX7_failFull, Cond.instanceMethod yX7_failFull, Cond.selects RX7 yX7_failFull yX7_failFull, Cond.code yX7_failFull cX7_failFull 1 (some .int), Cond.fieldLink RX7 164 "TreemapLayout" "fullCalls" "I", Cond.methodLink RX7 58 yX6_push, Cond.instanceMethod yX6_push]
def wsL_law_r13 : List Cond := [Cond.selects RX6 yX6_push yX6_push, Cond.code yX6_push cX6_push 2 none, Cond.fieldLink RX6 18 "TreemapLayout$UndoStack" "next" "I", Cond.fieldLink RX6 26 "TreemapLayout$UndoStack" "count" "I", Cond.methodLink RX6 22 yX5_copyFrom, Cond.instanceMethod yX5_copyFrom, Cond.selects RX5 yX5_copyFrom yX5_copyFrom, Cond.code yX5_copyFrom cX5_copyFrom 2 none, Cond.methodLink RX5 34 arraycopyName, Cond.native arraycopyName, Cond.static arraycopyName, Cond.initialized "java/lang/System", Cond.methodLink RX7 61 yX5_append, Cond.instanceMethod yX5_append, Cond.selects RX5 yX5_append yX5_append, Cond.code yX5_append cX5_append 3 none, Cond.methodLink RL 17 yX8_addNode, Cond.instanceMethod yX8_addNode, Cond.selects RX8 yX8_addNode yX8_addNode, Cond.code yX8_addNode cX8_addNode 3 (some .int), Cond.methodLink RX8 75 yX8_isNode, Cond.instanceMethod yX8_isNode, Cond.selects RX8 yX8_isNode yX8_isNode, Cond.code yX8_isNode cX8_isNode 2 (some .boolean)]
def wsL_law_r14 : List Cond := [Cond.methodLink RX8 56 yX8_within, Cond.static yX8_within, Cond.code yX8_within cX8_within 3 (some .boolean), Cond.methodLink RX8 64 yX8_fails, Cond.instanceMethod yX8_fails, Cond.selects RX8 yX8_fails yX8_fails, Cond.code yX8_fails cX8_fails 2 (some .int), Cond.methodLink RX8 79 yX8_saves, Cond.instanceMethod yX8_saves, Cond.selects RX8 yX8_saves yX8_saves, Cond.code yX8_saves cX8_saves 2 none, Cond.fieldLink RX8 60 "TreemapLayoutModel" "saved" "I", Cond.methodLink RL 18 yX7_setSize, Cond.instanceMethod yX7_setSize, Cond.selects RX7 yX7_setSize yX7_setSize, Cond.code yX7_setSize cX7_setSize 4 (some .int), Cond.fieldLink RX7 65 "TreemapLayout$State" "ownSizes" "[I", Cond.methodLink RL 21 yX8_setSize, Cond.instanceMethod yX8_setSize, Cond.selects RX8 yX8_setSize yX8_setSize, Cond.code yX8_setSize cX8_setSize 3 (some .int), Cond.methodLink RX8 82 yX8_changes, Cond.instanceMethod yX8_changes, Cond.selects RX8 yX8_changes yX8_changes]
def wsL_law_r15 : List Cond := [Cond.code yX8_changes cX8_changes 4 (some .int), Cond.methodLink RL 22 yX7_removeLeaf, Cond.instanceMethod yX7_removeLeaf, Cond.selects RX7 yX7_removeLeaf yX7_removeLeaf, Cond.code yX7_removeLeaf cX7_removeLeaf 2 (some .int), Cond.methodLink RX7 69 yX1_isLeaf, Cond.methodLink RX7 72 yX7_failRejected, Cond.instanceMethod yX7_failRejected, Cond.selects RX7 yX7_failRejected yX7_failRejected, Cond.code yX7_failRejected cX7_failRejected 1 (some .int), Cond.fieldLink RX7 161 "TreemapLayout" "rejectedCalls" "I", Cond.methodLink RX7 75 yX5_takeOut, Cond.instanceMethod yX5_takeOut, Cond.selects RX5 yX5_takeOut yX5_takeOut, Cond.code yX5_takeOut cX5_takeOut 3 none, Cond.methodLink RX5 40 yX5_has, Cond.methodLink RL 26 yX8_removeLeaf, Cond.instanceMethod yX8_removeLeaf, Cond.selects RX8 yX8_removeLeaf yX8_removeLeaf, Cond.code yX8_removeLeaf cX8_removeLeaf 3 (some .int), Cond.methodLink RX8 68 yX8_childMany, Cond.instanceMethod yX8_childMany, Cond.selects RX8 yX8_childMany yX8_childMany, Cond.code yX8_childMany cX8_childMany 4 (some .int)]
def wsL_law_r16 : List Cond := [Cond.methodLink RL 27 yX7_setParent, Cond.instanceMethod yX7_setParent, Cond.selects RX7 yX7_setParent yX7_setParent, Cond.code yX7_setParent cX7_setParent 4 (some .int), Cond.fieldLink RX7 83 "TreemapLayout$State" "parents" "[I", Cond.methodLink RX7 79 yX5_isWithin, Cond.instanceMethod yX5_isWithin, Cond.selects RX5 yX5_isWithin yX5_isWithin, Cond.code yX5_isWithin cX5_isWithin 5 (some .boolean), Cond.methodLink RL 30 yX8_setParent, Cond.instanceMethod yX8_setParent, Cond.selects RX8 yX8_setParent yX8_setParent, Cond.code yX8_setParent cX8_setParent 3 (some .int), Cond.methodLink RX8 71 yX8_isUnder, Cond.instanceMethod yX8_isUnder, Cond.selects RX8 yX8_isUnder yX8_isUnder, Cond.code yX8_isUnder cX8_isUnder 4 (some .boolean), Cond.methodLink RL 31 yX7_setCanvas, Cond.instanceMethod yX7_setCanvas, Cond.selects RX7 yX7_setCanvas yX7_setCanvas, Cond.code yX7_setCanvas cX7_setCanvas 4 (some .int), Cond.fieldLink RX7 89 "TreemapLayout$State" "canvasWidth" "I", Cond.fieldLink RX7 92 "TreemapLayout$State" "canvasHeight" "I", Cond.methodLink RX7 86 yX7_isSide]
def wsL_law_r17 : List Cond := [Cond.static yX7_isSide, Cond.code yX7_isSide cX7_isSide 1 (some .boolean), Cond.methodLink RL 34 yX8_setCanvas, Cond.instanceMethod yX8_setCanvas, Cond.selects RX8 yX8_setCanvas yX8_setCanvas, Cond.code yX8_setCanvas cX8_setCanvas 4 (some .int), Cond.methodLink RL 35 yX7_setPadding, Cond.instanceMethod yX7_setPadding, Cond.selects RX7 yX7_setPadding yX7_setPadding, Cond.code yX7_setPadding cX7_setPadding 3 (some .int), Cond.fieldLink RX7 95 "TreemapLayout$State" "padding" "I", Cond.methodLink RL 38 yX8_setPadding, Cond.instanceMethod yX8_setPadding, Cond.selects RX8 yX8_setPadding yX8_setPadding, Cond.code yX8_setPadding cX8_setPadding 2 (some .int), Cond.methodLink RL 39 yX7_setMode, Cond.instanceMethod yX7_setMode, Cond.selects RX7 yX7_setMode yX7_setMode, Cond.code yX7_setMode cX7_setMode 3 (some .int), Cond.fieldLink RX7 98 "TreemapLayout$State" "mode" "I", Cond.methodLink RL 42 yX8_setMode, Cond.instanceMethod yX8_setMode, Cond.selects RX8 yX8_setMode yX8_setMode, Cond.code yX8_setMode cX8_setMode 2 (some .int)]
def wsL_law_r18 : List Cond := [Cond.methodLink RL 43 yX7_nodeCount, Cond.instanceMethod yX7_nodeCount, Cond.selects RX7 yX7_nodeCount yX7_nodeCount, Cond.code yX7_nodeCount cX7_nodeCount 1 (some .int), Cond.methodLink RL 47 yX8_nodeCount, Cond.instanceMethod yX8_nodeCount, Cond.selects RX8 yX8_nodeCount yX8_nodeCount, Cond.code yX8_nodeCount cX8_nodeCount 1 (some .int), Cond.methodLink RL 48 yX7_size, Cond.instanceMethod yX7_size, Cond.selects RX7 yX7_size yX7_size, Cond.code yX7_size cX7_size 2 (some .int), Cond.fieldLink RX7 101 "TreemapLayout$Layout" "sizes" "[I", Cond.methodLink RL 51 yX8_size, Cond.instanceMethod yX8_size, Cond.selects RX8 yX8_size yX8_size, Cond.code yX8_size cX8_size 2 (some .int), Cond.methodLink RX8 86 yX8_sizeOf, Cond.instanceMethod yX8_sizeOf, Cond.selects RX8 yX8_sizeOf yX8_sizeOf, Cond.code yX8_sizeOf cX8_sizeOf 4 (some .int), Cond.methodLink RL 52 yX7_parent, Cond.instanceMethod yX7_parent, Cond.selects RX7 yX7_parent yX7_parent]
def wsL_law_r19 : List Cond := [Cond.code yX7_parent cX7_parent 2 (some .int), Cond.methodLink RL 55 yX8_parent, Cond.instanceMethod yX8_parent, Cond.selects RX8 yX8_parent yX8_parent, Cond.code yX8_parent cX8_parent 2 (some .int), Cond.methodLink RL 56 yX7_depth, Cond.instanceMethod yX7_depth, Cond.selects RX7 yX7_depth yX7_depth, Cond.code yX7_depth cX7_depth 2 (some .int), Cond.fieldLink RX7 104 "TreemapLayout$Layout" "depths" "[I", Cond.methodLink RL 59 yX8_depth, Cond.instanceMethod yX8_depth, Cond.selects RX8 yX8_depth yX8_depth, Cond.code yX8_depth cX8_depth 2 (some .int), Cond.methodLink RX8 89 yX8_depthOf, Cond.instanceMethod yX8_depthOf, Cond.selects RX8 yX8_depthOf yX8_depthOf, Cond.code yX8_depthOf cX8_depthOf 4 (some .int), Cond.methodLink RL 60 yX7_leafCount, Cond.instanceMethod yX7_leafCount, Cond.selects RX7 yX7_leafCount yX7_leafCount, Cond.code yX7_leafCount cX7_leafCount 3 (some .int), Cond.methodLink RL 63 yX8_leafCount, Cond.instanceMethod yX8_leafCount]
def wsL_law_r20 : List Cond := [Cond.selects RX8 yX8_leafCount yX8_leafCount, Cond.code yX8_leafCount cX8_leafCount 1 (some .int), Cond.methodLink RX8 92 yX8_leaves, Cond.instanceMethod yX8_leaves, Cond.selects RX8 yX8_leaves yX8_leaves, Cond.code yX8_leaves cX8_leaves 3 (some .int), Cond.methodLink RL 64 yX7_x, Cond.instanceMethod yX7_x, Cond.selects RX7 yX7_x yX7_x, Cond.code yX7_x cX7_x 2 (some .int), Cond.fieldLink RX7 107 "TreemapLayout$Layout" "rects" "LTreemapLayout$Rects;", Cond.fieldLink RX7 111 "TreemapLayout$Rects" "lefts" "[I", Cond.methodLink RL 67 yX8_x, Cond.instanceMethod yX8_x, Cond.selects RX8 yX8_x yX8_x, Cond.code yX8_x cX8_x 2 (some .int), Cond.methodLink RX8 149 yX8_lays, Cond.instanceMethod yX8_lays, Cond.selects RX8 yX8_lays yX8_lays, Cond.code yX8_lays cX8_lays 3 none, Cond.methodLink RX8 106 yX8_puts, Cond.instanceMethod yX8_puts, Cond.selects RX8 yX8_puts yX8_puts, Cond.code yX8_puts cX8_puts 6 none]
def wsL_law_r21 : List Cond := [Cond.methodLink RX8 146 yX8_laysUnder, Cond.instanceMethod yX8_laysUnder, Cond.selects RX8 yX8_laysUnder yX8_laysUnder, Cond.code yX8_laysUnder cX8_laysUnder 8 none, Cond.fieldLink RX8 96 "TreemapLayoutModel" "many" "I", Cond.methodLink RX8 135 yX8_laysChildren, Cond.instanceMethod yX8_laysChildren, Cond.selects RX8 yX8_laysChildren yX8_laysChildren, Cond.code yX8_laysChildren cX8_laysChildren 3 none, Cond.methodLink RX8 121 yX8_laysRow, Cond.instanceMethod yX8_laysRow, Cond.selects RX8 yX8_laysRow yX8_laysRow, Cond.code yX8_laysRow cX8_laysRow 11 none, Cond.methodLink RX8 99 yX8_laysSizes, Cond.instanceMethod yX8_laysSizes, Cond.selects RX8 yX8_laysSizes yX8_laysSizes, Cond.code yX8_laysSizes cX8_laysSizes 4 none, Cond.methodLink RX8 103 yX8_parts, Cond.instanceMethod yX8_parts, Cond.selects RX8 yX8_parts yX8_parts, Cond.code yX8_parts cX8_parts 9 none, Cond.methodLink RX8 139 yX8_laysStrips, Cond.instanceMethod yX8_laysStrips, Cond.selects RX8 yX8_laysStrips yX8_laysStrips]
def wsL_law_r22 : List Cond := [Cond.code yX8_laysStrips cX8_laysStrips 10 none, Cond.methodLink RX8 117 yX8_average, Cond.instanceMethod yX8_average, Cond.selects RX8 yX8_average yX8_average, Cond.code yX8_average cX8_average 7 (some .float), Cond.methodLink RX8 113 yX8_aspect, Cond.instanceMethod yX8_aspect, Cond.selects RX8 yX8_aspect yX8_aspect, Cond.code yX8_aspect cX8_aspect 10 (some .float), Cond.methodLink RX8 110 yX8_sumOf, Cond.instanceMethod yX8_sumOf, Cond.selects RX8 yX8_sumOf yX8_sumOf, Cond.code yX8_sumOf cX8_sumOf 5 (some .int), Cond.methodLink RX8 142 yX8_laysSquares, Cond.instanceMethod yX8_laysSquares, Cond.selects RX8 yX8_laysSquares yX8_laysSquares, Cond.code yX8_laysSquares cX8_laysSquares 16 none, Cond.methodLink RX8 128 yX8_sorts, Cond.instanceMethod yX8_sorts, Cond.selects RX8 yX8_sorts yX8_sorts, Cond.code yX8_sorts cX8_sorts 4 none, Cond.methodLink RX8 131 yX8_rowOf, Cond.instanceMethod yX8_rowOf, Cond.selects RX8 yX8_rowOf yX8_rowOf]
def wsL_law_r23 : List Cond := [Cond.code yX8_rowOf cX8_rowOf 5 (some .int), Cond.methodLink RX8 125 yX8_worst, Cond.instanceMethod yX8_worst, Cond.selects RX8 yX8_worst yX8_worst, Cond.code yX8_worst cX8_worst 8 (some .float), Cond.methodLink RL 68 yX7_y, Cond.instanceMethod yX7_y, Cond.selects RX7 yX7_y yX7_y, Cond.code yX7_y cX7_y 2 (some .int), Cond.fieldLink RX7 116 "TreemapLayout$Rects" "tops" "[I", Cond.methodLink RL 71 yX8_y, Cond.instanceMethod yX8_y, Cond.selects RX8 yX8_y yX8_y, Cond.code yX8_y cX8_y 2 (some .int), Cond.methodLink RL 72 yX7_width, Cond.instanceMethod yX7_width, Cond.selects RX7 yX7_width yX7_width, Cond.code yX7_width cX7_width 2 (some .int), Cond.fieldLink RX7 119 "TreemapLayout$Rects" "widths" "[I", Cond.methodLink RL 75 yX8_width, Cond.instanceMethod yX8_width, Cond.selects RX8 yX8_width yX8_width, Cond.code yX8_width cX8_width 2 (some .int), Cond.methodLink RL 76 yX7_height]
def wsL_law_r24 : List Cond := [Cond.instanceMethod yX7_height, Cond.selects RX7 yX7_height yX7_height, Cond.code yX7_height cX7_height 2 (some .int), Cond.fieldLink RX7 122 "TreemapLayout$Rects" "heights" "[I", Cond.methodLink RL 79 yX8_height, Cond.instanceMethod yX8_height, Cond.selects RX8 yX8_height yX8_height, Cond.code yX8_height cX8_height 2 (some .int), Cond.methodLink RL 80 yX7_isHidden, Cond.instanceMethod yX7_isHidden, Cond.selects RX7 yX7_isHidden yX7_isHidden, Cond.code yX7_isHidden cX7_isHidden 2 (some .int), Cond.methodLink RX7 125 yX7_hiddenFlag, Cond.instanceMethod yX7_hiddenFlag, Cond.selects RX7 yX7_hiddenFlag yX7_hiddenFlag, Cond.code yX7_hiddenFlag cX7_hiddenFlag 2 (some .int), Cond.fieldLink RX7 187 "TreemapLayout$Layout" "hidden" "[Z", Cond.methodLink RL 83 yX8_isHidden, Cond.instanceMethod yX8_isHidden, Cond.selects RX8 yX8_isHidden yX8_isHidden, Cond.code yX8_isHidden cX8_isHidden 2 (some .int), Cond.methodLink RL 84 yX7_nodeAt, Cond.instanceMethod yX7_nodeAt, Cond.selects RX7 yX7_nodeAt yX7_nodeAt]
def wsL_law_r25 : List Cond := [Cond.code yX7_nodeAt cX7_nodeAt 5 (some .int), Cond.methodLink RX7 129 yX3_contain, Cond.instanceMethod yX3_contain, Cond.selects RX3 yX3_contain yX3_contain, Cond.code yX3_contain cX3_contain 4 (some .boolean), Cond.methodLink RL 87 yX8_nodeAt, Cond.instanceMethod yX8_nodeAt, Cond.selects RX8 yX8_nodeAt yX8_nodeAt, Cond.code yX8_nodeAt cX8_nodeAt 6 (some .int), Cond.methodLink RL 88 yX7_leafPixels, Cond.instanceMethod yX7_leafPixels, Cond.selects RX7 yX7_leafPixels yX7_leafPixels, Cond.code yX7_leafPixels cX7_leafPixels 3 (some .int), Cond.methodLink RX7 133 yX3_area, Cond.instanceMethod yX3_area, Cond.selects RX3 yX3_area yX3_area, Cond.code yX3_area cX3_area 2 (some .int), Cond.methodLink RL 91 yX8_leafPixels, Cond.instanceMethod yX8_leafPixels, Cond.selects RX8 yX8_leafPixels yX8_leafPixels, Cond.code yX8_leafPixels cX8_leafPixels 1 (some .int), Cond.methodLink RX8 152 yX8_pixels, Cond.instanceMethod yX8_pixels, Cond.selects RX8 yX8_pixels yX8_pixels]
def wsL_law_r26 : List Cond := [Cond.code yX8_pixels cX8_pixels 3 (some .int), Cond.methodLink RL 92 yX7_worstAspect, Cond.instanceMethod yX7_worstAspect, Cond.selects RX7 yX7_worstAspect yX7_worstAspect, Cond.code yX7_worstAspect cX7_worstAspect 4 (some .int), Cond.methodLink RX7 136 yX1_isLeafWithArea, Cond.instanceMethod yX1_isLeafWithArea, Cond.selects RX1 yX1_isLeafWithArea yX1_isLeafWithArea, Cond.code yX1_isLeafWithArea cX1_isLeafWithArea 2 (some .boolean), Cond.methodLink RX1 49 yX3_area, Cond.methodLink RX7 139 yX3_aspect, Cond.instanceMethod yX3_aspect, Cond.selects RX3 yX3_aspect yX3_aspect, Cond.code yX3_aspect cX3_aspect 4 (some .float), Cond.methodLink RX3 24 Lib.Math.max.name, Cond.static Lib.Math.max.name, Cond.code Lib.Math.max.name Lib.Math.max.code 2 (some .int), Cond.methodLink RX3 30 Lib.Math.min.name, Cond.methodLink RX7 143 yX7_floatBits, Cond.static yX7_floatBits, Cond.code yX7_floatBits cX7_floatBits 4 (some .int), Cond.constantFloat RX7 191 (1258291200), Cond.constant RX7 192 (8388608), Cond.methodLink RL 95 yX8_worstAspect]
def wsL_law_r27 : List Cond := [Cond.instanceMethod yX8_worstAspect, Cond.selects RX8 yX8_worstAspect yX8_worstAspect, Cond.code yX8_worstAspect cX8_worstAspect 1 (some .int), Cond.methodLink RX8 161 yX8_aspects, Cond.instanceMethod yX8_aspects, Cond.selects RX8 yX8_aspects yX8_aspects, Cond.code yX8_aspects cX8_aspects 9 (some .int), Cond.methodLink RX8 155 yJxf58ca_floatToIntBits_5c35a, Cond.static yJxf58ca_floatToIntBits_5c35a, Cond.initialized RJxf58ca, Cond.code yJxf58ca_floatToIntBits_5c35a cJxf58ca_floatToIntBits_5c35a 1 (some .int), Cond.methodLink RJxf58ca 74 ⟨"java/lang/Float", "floatToRawIntBits", "(F)I"⟩, Cond.native ⟨"java/lang/Float", "floatToRawIntBits", "(F)I"⟩, Cond.static ⟨"java/lang/Float", "floatToRawIntBits", "(F)I"⟩, Cond.initialized "java/lang/Float", Cond.constant RJxf58ca 77 (2143289344), Cond.methodLink RJxf58ca 59 yJxf58ca_isNaN_12338, Cond.static yJxf58ca_isNaN_12338, Cond.code yJxf58ca_isNaN_12338 cJxf58ca_isNaN_12338 1 (some .boolean), Cond.methodLink RL 96 yX7_averageAspect, Cond.instanceMethod yX7_averageAspect, Cond.selects RX7 yX7_averageAspect yX7_averageAspect, Cond.code yX7_averageAspect cX7_averageAspect 4 (some .int), Cond.methodLink RL 99 yX8_averageAspect]
def wsL_law_r28 : List Cond := [Cond.instanceMethod yX8_averageAspect, Cond.selects RX8 yX8_averageAspect yX8_averageAspect, Cond.code yX8_averageAspect cX8_averageAspect 1 (some .int), Cond.methodLink RL 100 yX7_changeBy, Cond.instanceMethod yX7_changeBy, Cond.selects RX7 yX7_changeBy yX7_changeBy, Cond.code yX7_changeBy cX7_changeBy 5 (some .int), Cond.methodLink RX7 147 yX5_copyFrom, Cond.methodLink RX7 150 yX3_difference, Cond.instanceMethod yX3_difference, Cond.selects RX3 yX3_difference yX3_difference, Cond.code yX3_difference cX3_difference 3 (some .int), Cond.methodLink RX3 33 Lib.Math.abs.name, Cond.static Lib.Math.abs.name, Cond.code Lib.Math.abs.name Lib.Math.abs.code 1 (some .int), Cond.methodLink RL 103 yX8_changeBy, Cond.instanceMethod yX8_changeBy, Cond.selects RX8 yX8_changeBy yX8_changeBy, Cond.code yX8_changeBy cX8_changeBy 6 (some .int), Cond.methodLink RX8 165 yX8_far, Cond.static yX8_far, Cond.code yX8_far cX8_far 1 (some .int), Cond.methodLink RL 104 yX7_undo, Cond.instanceMethod yX7_undo]
def wsL_law_r29 : List Cond := [Cond.selects RX7 yX7_undo yX7_undo, Cond.code yX7_undo cX7_undo 1 (some .int), Cond.fieldLink RX7 154 "TreemapLayout$UndoStack" "count" "I", Cond.methodLink RX7 155 yX6_popInto, Cond.instanceMethod yX6_popInto, Cond.selects RX6 yX6_popInto yX6_popInto, Cond.code yX6_popInto cX6_popInto 2 none, Cond.methodLink RL 107 yX8_undo, Cond.instanceMethod yX8_undo, Cond.selects RX8 yX8_undo yX8_undo, Cond.code yX8_undo cX8_undo 2 (some .int), Cond.methodLink RL 108 yX7_errorCount, Cond.instanceMethod yX7_errorCount, Cond.selects RX7 yX7_errorCount yX7_errorCount, Cond.code yX7_errorCount cX7_errorCount 2 (some .int), Cond.methodLink RL 111 yX8_errorCount, Cond.instanceMethod yX8_errorCount, Cond.selects RX8 yX8_errorCount yX8_errorCount, Cond.code yX8_errorCount cX8_errorCount 2 (some .int), Cond.methodLink RL 112 yX7_digest, Cond.instanceMethod yX7_digest, Cond.selects RX7 yX7_digest yX7_digest, Cond.code yX7_digest cX7_digest 4 (some .long), Cond.constantLong RX7 167 (11759)]
def wsL_law_r30 : List Cond := [Cond.methodLink RX7 169 yX7_mix, Cond.static yX7_mix, Cond.code yX7_mix cX7_mix 3 (some .long), Cond.constantLong RX7 185 (31), Cond.methodLink RX7 173 yX7_mixNode, Cond.instanceMethod yX7_mixNode, Cond.selects RX7 yX7_mixNode yX7_mixNode, Cond.code yX7_mixNode cX7_mixNode 6 (some .long), Cond.methodLink RX7 176 yX7_leafPixels, Cond.methodLink RX7 179 yX7_worstAspect, Cond.methodLink RX7 182 yX7_averageAspect, Cond.methodLink RL 116 yX8_digest, Cond.instanceMethod yX8_digest, Cond.selects RX8 yX8_digest yX8_digest, Cond.code yX8_digest cX8_digest 2 (some .long), Cond.constantLong RX8 174 (11759), Cond.fieldLink RX8 170 "TreemapLayoutModel" "hash" "J", Cond.methodLink RX8 176 yX8_mix, Cond.instanceMethod yX8_mix, Cond.selects RX8 yX8_mix yX8_mix, Cond.code yX8_mix cX8_mix 2 none, Cond.constantLong RX8 168 (31)]
def wsL_law : List Cond := (wsL_law_r1 ++ (wsL_law_r2 ++ (wsL_law_r3 ++ (wsL_law_r4 ++ (wsL_law_r5 ++ (wsL_law_r6 ++ (wsL_law_r7 ++ (wsL_law_r8 ++ (wsL_law_r9 ++ (wsL_law_r10 ++ (wsL_law_r11 ++ (wsL_law_r12 ++ (wsL_law_r13 ++ (wsL_law_r14 ++ (wsL_law_r15 ++ (wsL_law_r16 ++ (wsL_law_r17 ++ (wsL_law_r18 ++ (wsL_law_r19 ++ (wsL_law_r20 ++ (wsL_law_r21 ++ (wsL_law_r22 ++ (wsL_law_r23 ++ (wsL_law_r24 ++ (wsL_law_r25 ++ (wsL_law_r26 ++ (wsL_law_r27 ++ (wsL_law_r28 ++ (wsL_law_r29 ++ wsL_law_r30))))))))))))))))))))))))))))) ++ wsX70 ++ wsX80 ++ wsX50 ++ wsX10 ++ wsX60 ++ wsX30 ++ wsX20 ++ wsX00 ++ wsX40 ++ ([] : List Cond)
theorem inlX0 : ∀ w ∈ wsX00, w ∈ wsL_law := fun _ h => List.mem_append_left _ (List.mem_append_left _ (List.mem_append_right _ h))
theorem inlX1 : ∀ w ∈ wsX10, w ∈ wsL_law := fun _ h => List.mem_append_left _ (List.mem_append_left _ (List.mem_append_left _ (List.mem_append_left _ (List.mem_append_left _ (List.mem_append_left _ (List.mem_append_right _ h))))))
theorem inlX2 : ∀ w ∈ wsX20, w ∈ wsL_law := fun _ h => List.mem_append_left _ (List.mem_append_left _ (List.mem_append_left _ (List.mem_append_right _ h)))
theorem inlX3 : ∀ w ∈ wsX30, w ∈ wsL_law := fun _ h => List.mem_append_left _ (List.mem_append_left _ (List.mem_append_left _ (List.mem_append_left _ (List.mem_append_right _ h))))
theorem inlX4 : ∀ w ∈ wsX40, w ∈ wsL_law := fun _ h => List.mem_append_left _ (List.mem_append_right _ h)
theorem inlX5 : ∀ w ∈ wsX50, w ∈ wsL_law := fun _ h => List.mem_append_left _ (List.mem_append_left _ (List.mem_append_left _ (List.mem_append_left _ (List.mem_append_left _ (List.mem_append_left _ (List.mem_append_left _ (List.mem_append_right _ h)))))))
theorem inlX6 : ∀ w ∈ wsX60, w ∈ wsL_law := fun _ h => List.mem_append_left _ (List.mem_append_left _ (List.mem_append_left _ (List.mem_append_left _ (List.mem_append_left _ (List.mem_append_right _ h)))))
theorem inlX7 : ∀ w ∈ wsX70, w ∈ wsL_law := fun _ h => List.mem_append_left _ (List.mem_append_left _ (List.mem_append_left _ (List.mem_append_left _ (List.mem_append_left _ (List.mem_append_left _ (List.mem_append_left _ (List.mem_append_left _ (List.mem_append_left _ (List.mem_append_right _ h)))))))))
theorem inlX8 : ∀ w ∈ wsX80, w ∈ wsL_law := fun _ h => List.mem_append_left _ (List.mem_append_left _ (List.mem_append_left _ (List.mem_append_left _ (List.mem_append_left _ (List.mem_append_left _ (List.mem_append_left _ (List.mem_append_left _ (List.mem_append_right _ h))))))))
theorem inJxf58ca : ∀ w ∈ wsJxf58ca0, w ∈ lw_tbl := by decide +kernel
theorem inJ9 : ∀ w ∈ wsJ90, w ∈ lw_tbl := by decide +kernel
theorem inJ10 : ∀ w ∈ wsJ100, w ∈ lw_tbl := by decide +kernel
theorem dX0_init_0 : decode cX0_init 0 = .ok (.aload_n 0, 1) := by decide +kernel
theorem dX0_init_1 : decode cX0_init 1 = .ok (.invokespecial 1, 3) := by decide +kernel
theorem dX0_init_4 : decode cX0_init 4 = .ok (.return_, 1) := by decide +kernel
theorem dX0_set_0 : decode cX0_set 0 = .ok (.aload_n 0, 1) := by decide +kernel
theorem dX0_set_1 : decode cX0_set 1 = .ok (.iload_n 1, 1) := by decide +kernel
theorem dX0_set_2 : decode cX0_set 2 = .ok (.putfield 7, 3) := by decide +kernel
theorem dX0_set_5 : decode cX0_set 5 = .ok (.aload_n 0, 1) := by decide +kernel
theorem dX0_set_6 : decode cX0_set 6 = .ok (.iload_n 2, 1) := by decide +kernel
theorem dX0_set_7 : decode cX0_set 7 = .ok (.putfield 13, 3) := by decide +kernel
theorem dX0_set_10 : decode cX0_set 10 = .ok (.aload_n 0, 1) := by decide +kernel
theorem dX0_set_11 : decode cX0_set 11 = .ok (.iload_n 3, 1) := by decide +kernel
theorem dX0_set_12 : decode cX0_set 12 = .ok (.putfield 16, 3) := by decide +kernel
theorem dX0_set_15 : decode cX0_set 15 = .ok (.aload_n 0, 1) := by decide +kernel
theorem dX0_set_16 : decode cX0_set 16 = .ok (.iload 4, 2) := by decide +kernel
theorem dX0_set_18 : decode cX0_set 18 = .ok (.putfield 19, 3) := by decide +kernel
theorem dX0_set_21 : decode cX0_set 21 = .ok (.return_, 1) := by decide +kernel
theorem dX0_isEmpty_0 : decode cX0_isEmpty 0 = .ok (.aload_n 0, 1) := by decide +kernel
theorem dX0_isEmpty_1 : decode cX0_isEmpty 1 = .ok (.getfield 16, 3) := by decide +kernel
theorem dX0_isEmpty_4 : decode cX0_isEmpty 4 = .ok (.iconst 1, 1) := by decide +kernel
theorem dX0_isEmpty_5 : decode cX0_isEmpty 5 = .ok (.if_icmp .lt 11, 3) := by decide +kernel
theorem dX0_isEmpty_8 : decode cX0_isEmpty 8 = .ok (.aload_n 0, 1) := by decide +kernel
theorem dX0_isEmpty_9 : decode cX0_isEmpty 9 = .ok (.getfield 19, 3) := by decide +kernel
theorem dX0_isEmpty_12 : decode cX0_isEmpty 12 = .ok (.iconst 1, 1) := by decide +kernel
theorem dX0_isEmpty_13 : decode cX0_isEmpty 13 = .ok (.if_icmp .ge 7, 3) := by decide +kernel
theorem dX0_isEmpty_16 : decode cX0_isEmpty 16 = .ok (.iconst 1, 1) := by decide +kernel
theorem dX0_isEmpty_17 : decode cX0_isEmpty 17 = .ok (.goto 4, 3) := by decide +kernel
theorem dX0_isEmpty_20 : decode cX0_isEmpty 20 = .ok (.iconst 0, 1) := by decide +kernel
theorem dX0_isEmpty_21 : decode cX0_isEmpty 21 = .ok (.ireturn, 1) := by decide +kernel
set_option maxRecDepth 20000 in
theorem ggX1_init_X3_init : GoodIn wsX1_init wsX3_init := goodIn_r _ [21, 22, 2, 3, 4, 23, 24, 25, 26, 60, 61, 62, 63] (by decide +kernel) (by decide +kernel)
set_option maxRecDepth 20000 in
theorem gX1_init_X3_init_n24 : GoodIn wsX1_init (wsX3_init) := ggX1_init_X3_init
set_option maxRecDepth 20000 in
theorem ggX1_init_X2_init : GoodIn wsX1_init wsX2_init := goodIn_r _ [28, 29, 2, 3, 4, 30, 31, 32, 33, 34, 35, 36, 37, 38, 39, 40, 41, 42, 43, 44, 45, 46, 47, 48, 49, 50, 51, 64, 65, 66, 67, 68, 69, 70, 71, 72, 73, 74, 75, 76, 77, 78, 79] (by decide +kernel) (by decide +kernel)
set_option maxRecDepth 20000 in
theorem gX1_init_X2_init_n40 : GoodIn wsX1_init (wsX2_init) := ggX1_init_X2_init
theorem dX1_init_0 : decode cX1_init 0 = .ok (.aload_n 0, 1) := by decide +kernel
theorem dX1_init_1 : decode cX1_init 1 = .ok (.invokespecial 3, 3) := by decide +kernel
theorem dX1_init_4 : decode cX1_init 4 = .ok (.aload_n 0, 1) := by decide +kernel
theorem dX1_init_5 : decode cX1_init 5 = .ok (.bipush 24, 2) := by decide +kernel
theorem dX1_init_7 : decode cX1_init 7 = .ok (.newarray .int, 2) := by decide +kernel
theorem dX1_init_9 : decode cX1_init 9 = .ok (.putfield 9, 3) := by decide +kernel
theorem dX1_init_12 : decode cX1_init 12 = .ok (.aload_n 0, 1) := by decide +kernel
theorem dX1_init_13 : decode cX1_init 13 = .ok (.bipush 24, 2) := by decide +kernel
theorem dX1_init_15 : decode cX1_init 15 = .ok (.newarray .int, 2) := by decide +kernel
theorem dX1_init_17 : decode cX1_init 17 = .ok (.putfield 15, 3) := by decide +kernel
theorem dX1_init_20 : decode cX1_init 20 = .ok (.aload_n 0, 1) := by decide +kernel
theorem dX1_init_21 : decode cX1_init 21 = .ok (.bipush 24, 2) := by decide +kernel
theorem dX1_init_23 : decode cX1_init 23 = .ok (.newarray .boolean, 2) := by decide +kernel
theorem dX1_init_25 : decode cX1_init 25 = .ok (.putfield 18, 3) := by decide +kernel
theorem dX1_init_28 : decode cX1_init 28 = .ok (.aload_n 0, 1) := by decide +kernel
theorem dX1_init_29 : decode cX1_init 29 = .ok (.new 22, 3) := by decide +kernel
theorem dX1_init_32 : decode cX1_init 32 = .ok (.dup, 1) := by decide +kernel
theorem dX1_init_33 : decode cX1_init 33 = .ok (.invokespecial 24, 3) := by decide +kernel
theorem dX1_init_36 : decode cX1_init 36 = .ok (.putfield 25, 3) := by decide +kernel
theorem dX1_init_39 : decode cX1_init 39 = .ok (.aload_n 0, 1) := by decide +kernel
theorem dX1_init_40 : decode cX1_init 40 = .ok (.bipush 24, 2) := by decide +kernel
theorem dX1_init_42 : decode cX1_init 42 = .ok (.newarray .int, 2) := by decide +kernel
theorem dX1_init_44 : decode cX1_init 44 = .ok (.putfield 29, 3) := by decide +kernel
theorem dX1_init_47 : decode cX1_init 47 = .ok (.aload_n 0, 1) := by decide +kernel
theorem dX1_init_48 : decode cX1_init 48 = .ok (.bipush 24, 2) := by decide +kernel
theorem dX1_init_50 : decode cX1_init 50 = .ok (.newarray .int, 2) := by decide +kernel
theorem dX1_init_52 : decode cX1_init 52 = .ok (.putfield 32, 3) := by decide +kernel
theorem dX1_init_55 : decode cX1_init 55 = .ok (.aload_n 0, 1) := by decide +kernel
theorem dX1_init_56 : decode cX1_init 56 = .ok (.bipush 24, 2) := by decide +kernel
theorem dX1_init_58 : decode cX1_init 58 = .ok (.newarray .int, 2) := by decide +kernel
theorem dX1_init_60 : decode cX1_init 60 = .ok (.putfield 35, 3) := by decide +kernel
theorem dX1_init_63 : decode cX1_init 63 = .ok (.aload_n 0, 1) := by decide +kernel
theorem dX1_init_64 : decode cX1_init 64 = .ok (.new 38, 3) := by decide +kernel
theorem dX1_init_67 : decode cX1_init 67 = .ok (.dup, 1) := by decide +kernel
theorem dX1_init_68 : decode cX1_init 68 = .ok (.invokespecial 40, 3) := by decide +kernel
theorem dX1_init_71 : decode cX1_init 71 = .ok (.putfield 41, 3) := by decide +kernel
theorem dX1_init_74 : decode cX1_init 74 = .ok (.return_, 1) := by decide +kernel
theorem dX1_isLeaf_0 : decode cX1_isLeaf 0 = .ok (.aload_n 0, 1) := by decide +kernel
theorem dX1_isLeaf_1 : decode cX1_isLeaf 1 = .ok (.getfield 35, 3) := by decide +kernel
theorem dX1_isLeaf_4 : decode cX1_isLeaf 4 = .ok (.iload_n 1, 1) := by decide +kernel
theorem dX1_isLeaf_5 : decode cX1_isLeaf 5 = .ok (.iaload, 1) := by decide +kernel
theorem dX1_isLeaf_6 : decode cX1_isLeaf 6 = .ok (.ifCond .ne 7, 3) := by decide +kernel
theorem dX1_isLeaf_9 : decode cX1_isLeaf 9 = .ok (.iconst 1, 1) := by decide +kernel
theorem dX1_isLeaf_10 : decode cX1_isLeaf 10 = .ok (.goto 4, 3) := by decide +kernel
theorem dX1_isLeaf_13 : decode cX1_isLeaf 13 = .ok (.iconst 0, 1) := by decide +kernel
theorem dX1_isLeaf_14 : decode cX1_isLeaf 14 = .ok (.ireturn, 1) := by decide +kernel
set_option maxRecDepth 20000 in
theorem ggX1_isLeafWithArea_X1_isLeaf : GoodIn wsX1_isLeafWithArea wsX1_isLeaf := goodIn_r _ [6, 7, 15, 16, 17, 18, 19, 20, 21, 22] (by decide +kernel) (by decide +kernel)
set_option maxRecDepth 20000 in
theorem gX1_isLeafWithArea_X1_isLeaf : GoodIn wsX1_isLeafWithArea (wsV RX1 45 RX1 yX1_isLeaf wsX1_isLeaf) := goodIn_app (goodIn_of _ (by decide +kernel)) ggX1_isLeafWithArea_X1_isLeaf
set_option maxRecDepth 20000 in
theorem ggX1_isLeafWithArea_X3_area : GoodIn wsX1_isLeafWithArea wsX3_area := goodIn_r _ [12, 13, 14, 23, 24, 25, 26] (by decide +kernel) (by decide +kernel)
set_option maxRecDepth 20000 in
theorem gX1_isLeafWithArea_X3_area : GoodIn wsX1_isLeafWithArea (wsV RX1 49 RX3 yX3_area wsX3_area) := goodIn_app (goodIn_of _ (by decide +kernel)) ggX1_isLeafWithArea_X3_area
theorem dX1_isLeafWithArea_0 : decode cX1_isLeafWithArea 0 = .ok (.aload_n 0, 1) := by decide +kernel
theorem dX1_isLeafWithArea_1 : decode cX1_isLeafWithArea 1 = .ok (.iload_n 1, 1) := by decide +kernel
theorem dX1_isLeafWithArea_2 : decode cX1_isLeafWithArea 2 = .ok (.invokevirtual 45, 3) := by decide +kernel
theorem dX1_isLeafWithArea_5 : decode cX1_isLeafWithArea 5 = .ok (.ifCond .eq 18, 3) := by decide +kernel
theorem dX1_isLeafWithArea_8 : decode cX1_isLeafWithArea 8 = .ok (.aload_n 0, 1) := by decide +kernel
theorem dX1_isLeafWithArea_9 : decode cX1_isLeafWithArea 9 = .ok (.getfield 25, 3) := by decide +kernel
theorem dX1_isLeafWithArea_12 : decode cX1_isLeafWithArea 12 = .ok (.iload_n 1, 1) := by decide +kernel
theorem dX1_isLeafWithArea_13 : decode cX1_isLeafWithArea 13 = .ok (.invokevirtual 49, 3) := by decide +kernel
theorem dX1_isLeafWithArea_16 : decode cX1_isLeafWithArea 16 = .ok (.ifCond .le 7, 3) := by decide +kernel
theorem dX1_isLeafWithArea_19 : decode cX1_isLeafWithArea 19 = .ok (.iconst 1, 1) := by decide +kernel
theorem dX1_isLeafWithArea_20 : decode cX1_isLeafWithArea 20 = .ok (.goto 4, 3) := by decide +kernel
theorem dX1_isLeafWithArea_23 : decode cX1_isLeafWithArea 23 = .ok (.iconst 0, 1) := by decide +kernel
theorem dX1_isLeafWithArea_24 : decode cX1_isLeafWithArea 24 = .ok (.ireturn, 1) := by decide +kernel
set_option maxRecDepth 20000 in
theorem ggX1_arrange_X1_orderNodes : GoodIn wsX1_arrange wsX1_orderNodes := goodIn_r _ [11, 6, 12, 5, 13, 14, 15, 174, 175, 176, 177, 178, 179, 180, 181, 182, 183, 184, 185, 186, 187, 188] (by decide +kernel) (by decide +kernel)
set_option maxRecDepth 20000 in
theorem gX1_arrange_X1_orderNodes : GoodIn wsX1_arrange (wsV RX1 53 RX1 yX1_orderNodes wsX1_orderNodes) := goodIn_app (goodIn_of _ (by decide +kernel)) ggX1_arrange_X1_orderNodes
set_option maxRecDepth 20000 in
theorem ggX1_arrange_X1_sumSizes : GoodIn wsX1_arrange wsX1_sumSizes := goodIn_r _ [19, 5, 6, 13, 15, 20, 21, 22, 23, 24, 10, 25, 182, 183, 184, 185, 186, 187, 188, 174, 175, 176, 177, 178, 179, 180, 181] (by decide +kernel) (by decide +kernel)
set_option maxRecDepth 20000 in
theorem gX1_arrange_X1_sumSizes : GoodIn wsX1_arrange (wsV RX1 57 RX1 yX1_sumSizes wsX1_sumSizes) := goodIn_app (goodIn_of _ (by decide +kernel)) ggX1_arrange_X1_sumSizes
set_option maxRecDepth 20000 in
theorem ggX1_arrange_X3_put : GoodIn wsX1_arrange wsX3_put := goodIn_r _ [30, 31, 32, 33, 34, 189, 190, 191, 192] (by decide +kernel) (by decide +kernel)
set_option maxRecDepth 20000 in
theorem gX1_arrange_X3_put : GoodIn wsX1_arrange (wsV RX1 69 RX3 yX3_put wsX3_put) := goodIn_app (goodIn_of _ (by decide +kernel)) ggX1_arrange_X3_put
set_option maxRecDepth 20000 in
theorem ggX1_arrange_X1_placeChildren : GoodIn wsX1_arrange wsX1_placeChildren := goodIn_r _ [38, 39, 40, 1, 41, 42, 43, 44, 13, 15, 6, 4, 20, 45, 12, 46, 47, 48, 49, 50, 51, 52, 53, 54, 55, 56, 57, 58, 59, 60, 61, 62, 63, 64, 65, 66, 67, 68, 69, 26, 27, 28, 29, 30, 31, 32, 33, 34, 70, 71, 72, 73, 74, 75, 22, 23, 24, 10, 25, 76, 77, 78, 79, 80, 81, 82, 83, 84, 85, 86, 87, 88, 89, 90, 91, 92, 93, 94, 95, 96, 97, 98, 99, 100, 101, 102, 103, 104, 105, 106, 107, 108, 109, 110, 111, 112, 113, 114, 115, 116, 117, 118, 119, 120, 121, 122, 123, 124, 125, 126, 127, 128, 129, 130, 131, 132, 133, 134, 135, 136, 137, 138, 139, 140, 141, 142, 143, 144, 145, 146, 147, 148, 149, 150, 151, 152, 153, 154, 155, 156, 157, 158, 159, 160, 161, 162, 163, 164, 165, 166, 167, 168, 169, 170, 171, 172, 173, 182, 183, 184, 185, 186, 187, 188, 174, 175, 176, 177, 178, 179, 180, 181, 189, 190, 191, 192, 193, 194, 195, 196, 197, 198, 199, 200, 201, 202, 203, 204, 205, 206, 207, 208] (by decide +kernel) (by decide +kernel)
set_option maxRecDepth 20000 in
theorem gX1_arrange_X1_placeChildren : GoodIn wsX1_arrange (wsV RX1 76 RX1 yX1_placeChildren wsX1_placeChildren) := goodIn_app (goodIn_of _ (by decide +kernel)) ggX1_arrange_X1_placeChildren
theorem dX1_arrange_0 : decode cX1_arrange 0 = .ok (.aload_n 0, 1) := by decide +kernel
theorem dX1_arrange_1 : decode cX1_arrange 1 = .ok (.aload_n 1, 1) := by decide +kernel
theorem dX1_arrange_2 : decode cX1_arrange 2 = .ok (.invokevirtual 53, 3) := by decide +kernel
theorem dX1_arrange_5 : decode cX1_arrange 5 = .ok (.aload_n 0, 1) := by decide +kernel
theorem dX1_arrange_6 : decode cX1_arrange 6 = .ok (.aload_n 1, 1) := by decide +kernel
theorem dX1_arrange_7 : decode cX1_arrange 7 = .ok (.invokevirtual 57, 3) := by decide +kernel
theorem dX1_arrange_10 : decode cX1_arrange 10 = .ok (.aload_n 0, 1) := by decide +kernel
theorem dX1_arrange_11 : decode cX1_arrange 11 = .ok (.getfield 25, 3) := by decide +kernel
theorem dX1_arrange_14 : decode cX1_arrange 14 = .ok (.iconst 0, 1) := by decide +kernel
theorem dX1_arrange_15 : decode cX1_arrange 15 = .ok (.iconst 0, 1) := by decide +kernel
theorem dX1_arrange_16 : decode cX1_arrange 16 = .ok (.iconst 0, 1) := by decide +kernel
theorem dX1_arrange_17 : decode cX1_arrange 17 = .ok (.aload_n 1, 1) := by decide +kernel
theorem dX1_arrange_18 : decode cX1_arrange 18 = .ok (.getfield 60, 3) := by decide +kernel
theorem dX1_arrange_21 : decode cX1_arrange 21 = .ok (.aload_n 1, 1) := by decide +kernel
theorem dX1_arrange_22 : decode cX1_arrange 22 = .ok (.getfield 66, 3) := by decide +kernel
theorem dX1_arrange_25 : decode cX1_arrange 25 = .ok (.invokevirtual 69, 3) := by decide +kernel
theorem dX1_arrange_28 : decode cX1_arrange 28 = .ok (.aload_n 0, 1) := by decide +kernel
theorem dX1_arrange_29 : decode cX1_arrange 29 = .ok (.getfield 18, 3) := by decide +kernel
theorem dX1_arrange_32 : decode cX1_arrange 32 = .ok (.iconst 0, 1) := by decide +kernel
theorem dX1_arrange_33 : decode cX1_arrange 33 = .ok (.iconst 0, 1) := by decide +kernel
theorem dX1_arrange_34 : decode cX1_arrange 34 = .ok (.bastore, 1) := by decide +kernel
theorem dX1_arrange_35 : decode cX1_arrange 35 = .ok (.iconst 0, 1) := by decide +kernel
theorem dX1_arrange_36 : decode cX1_arrange 36 = .ok (.istore_n 2, 1) := by decide +kernel
theorem dX1_arrange_37 : decode cX1_arrange 37 = .ok (.iload_n 2, 1) := by decide +kernel
theorem dX1_arrange_38 : decode cX1_arrange 38 = .ok (.aload_n 1, 1) := by decide +kernel
theorem dX1_arrange_39 : decode cX1_arrange 39 = .ok (.getfield 73, 3) := by decide +kernel
theorem dX1_arrange_42 : decode cX1_arrange 42 = .ok (.if_icmp .ge 20, 3) := by decide +kernel
theorem dX1_arrange_45 : decode cX1_arrange 45 = .ok (.aload_n 0, 1) := by decide +kernel
theorem dX1_arrange_46 : decode cX1_arrange 46 = .ok (.aload_n 0, 1) := by decide +kernel
theorem dX1_arrange_47 : decode cX1_arrange 47 = .ok (.getfield 29, 3) := by decide +kernel
theorem dX1_arrange_50 : decode cX1_arrange 50 = .ok (.iload_n 2, 1) := by decide +kernel
theorem dX1_arrange_51 : decode cX1_arrange 51 = .ok (.iaload, 1) := by decide +kernel
theorem dX1_arrange_52 : decode cX1_arrange 52 = .ok (.aload_n 1, 1) := by decide +kernel
theorem dX1_arrange_53 : decode cX1_arrange 53 = .ok (.invokevirtual 76, 3) := by decide +kernel
theorem dX1_arrange_56 : decode cX1_arrange 56 = .ok (.iinc 2 1, 3) := by decide +kernel
theorem dX1_arrange_59 : decode cX1_arrange 59 = .ok (.goto (-22), 3) := by decide +kernel
theorem dX1_arrange_62 : decode cX1_arrange 62 = .ok (.return_, 1) := by decide +kernel
theorem dX1_orderNodes_0 : decode cX1_orderNodes 0 = .ok (.aload_n 0, 1) := by decide +kernel
theorem dX1_orderNodes_1 : decode cX1_orderNodes 1 = .ok (.getfield 29, 3) := by decide +kernel
theorem dX1_orderNodes_4 : decode cX1_orderNodes 4 = .ok (.iconst 0, 1) := by decide +kernel
theorem dX1_orderNodes_5 : decode cX1_orderNodes 5 = .ok (.iconst 0, 1) := by decide +kernel
theorem dX1_orderNodes_6 : decode cX1_orderNodes 6 = .ok (.iastore, 1) := by decide +kernel
theorem dX1_orderNodes_7 : decode cX1_orderNodes 7 = .ok (.aload_n 0, 1) := by decide +kernel
theorem dX1_orderNodes_8 : decode cX1_orderNodes 8 = .ok (.getfield 15, 3) := by decide +kernel
theorem dX1_orderNodes_11 : decode cX1_orderNodes 11 = .ok (.iconst 0, 1) := by decide +kernel
theorem dX1_orderNodes_12 : decode cX1_orderNodes 12 = .ok (.iconst 0, 1) := by decide +kernel
theorem dX1_orderNodes_13 : decode cX1_orderNodes 13 = .ok (.iastore, 1) := by decide +kernel
theorem dX1_orderNodes_14 : decode cX1_orderNodes 14 = .ok (.iconst 1, 1) := by decide +kernel
theorem dX1_orderNodes_15 : decode cX1_orderNodes 15 = .ok (.istore_n 2, 1) := by decide +kernel
theorem dX1_orderNodes_16 : decode cX1_orderNodes 16 = .ok (.iconst 0, 1) := by decide +kernel
theorem dX1_orderNodes_17 : decode cX1_orderNodes 17 = .ok (.istore_n 3, 1) := by decide +kernel
theorem dX1_orderNodes_18 : decode cX1_orderNodes 18 = .ok (.iload_n 3, 1) := by decide +kernel
theorem dX1_orderNodes_19 : decode cX1_orderNodes 19 = .ok (.aload_n 1, 1) := by decide +kernel
theorem dX1_orderNodes_20 : decode cX1_orderNodes 20 = .ok (.getfield 73, 3) := by decide +kernel
theorem dX1_orderNodes_23 : decode cX1_orderNodes 23 = .ok (.if_icmp .ge 104, 3) := by decide +kernel
theorem dX1_orderNodes_26 : decode cX1_orderNodes 26 = .ok (.aload_n 0, 1) := by decide +kernel
theorem dX1_orderNodes_27 : decode cX1_orderNodes 27 = .ok (.getfield 29, 3) := by decide +kernel
theorem dX1_orderNodes_30 : decode cX1_orderNodes 30 = .ok (.iload_n 3, 1) := by decide +kernel
theorem dX1_orderNodes_31 : decode cX1_orderNodes 31 = .ok (.iaload, 1) := by decide +kernel
theorem dX1_orderNodes_32 : decode cX1_orderNodes 32 = .ok (.istore 4, 2) := by decide +kernel
theorem dX1_orderNodes_34 : decode cX1_orderNodes 34 = .ok (.aload_n 0, 1) := by decide +kernel
theorem dX1_orderNodes_35 : decode cX1_orderNodes 35 = .ok (.getfield 32, 3) := by decide +kernel
theorem dX1_orderNodes_38 : decode cX1_orderNodes 38 = .ok (.iload 4, 2) := by decide +kernel
theorem dX1_orderNodes_40 : decode cX1_orderNodes 40 = .ok (.iload_n 2, 1) := by decide +kernel
theorem dX1_orderNodes_41 : decode cX1_orderNodes 41 = .ok (.iastore, 1) := by decide +kernel
theorem dX1_orderNodes_42 : decode cX1_orderNodes 42 = .ok (.iconst 1, 1) := by decide +kernel
theorem dX1_orderNodes_43 : decode cX1_orderNodes 43 = .ok (.istore 5, 2) := by decide +kernel
theorem dX1_orderNodes_45 : decode cX1_orderNodes 45 = .ok (.iload 5, 2) := by decide +kernel
theorem dX1_orderNodes_47 : decode cX1_orderNodes 47 = .ok (.aload_n 1, 1) := by decide +kernel
theorem dX1_orderNodes_48 : decode cX1_orderNodes 48 = .ok (.getfield 73, 3) := by decide +kernel
theorem dX1_orderNodes_51 : decode cX1_orderNodes 51 = .ok (.if_icmp .ge 54, 3) := by decide +kernel
theorem dX1_orderNodes_54 : decode cX1_orderNodes 54 = .ok (.aload_n 1, 1) := by decide +kernel
theorem dX1_orderNodes_55 : decode cX1_orderNodes 55 = .ok (.getfield 80, 3) := by decide +kernel
theorem dX1_orderNodes_58 : decode cX1_orderNodes 58 = .ok (.iload 5, 2) := by decide +kernel
theorem dX1_orderNodes_60 : decode cX1_orderNodes 60 = .ok (.iaload, 1) := by decide +kernel
theorem dX1_orderNodes_61 : decode cX1_orderNodes 61 = .ok (.iload 4, 2) := by decide +kernel
theorem dX1_orderNodes_63 : decode cX1_orderNodes 63 = .ok (.if_icmp .ne 36, 3) := by decide +kernel
theorem dX1_orderNodes_66 : decode cX1_orderNodes 66 = .ok (.iload_n 2, 1) := by decide +kernel
theorem dX1_orderNodes_67 : decode cX1_orderNodes 67 = .ok (.bipush 24, 2) := by decide +kernel
theorem dX1_orderNodes_69 : decode cX1_orderNodes 69 = .ok (.if_icmp .ge 30, 3) := by decide +kernel
theorem dX1_orderNodes_72 : decode cX1_orderNodes 72 = .ok (.aload_n 0, 1) := by decide +kernel
theorem dX1_orderNodes_73 : decode cX1_orderNodes 73 = .ok (.getfield 15, 3) := by decide +kernel
theorem dX1_orderNodes_76 : decode cX1_orderNodes 76 = .ok (.iload 5, 2) := by decide +kernel
theorem dX1_orderNodes_78 : decode cX1_orderNodes 78 = .ok (.aload_n 0, 1) := by decide +kernel
theorem dX1_orderNodes_79 : decode cX1_orderNodes 79 = .ok (.getfield 15, 3) := by decide +kernel
theorem dX1_orderNodes_82 : decode cX1_orderNodes 82 = .ok (.iload 4, 2) := by decide +kernel
theorem dX1_orderNodes_84 : decode cX1_orderNodes 84 = .ok (.iaload, 1) := by decide +kernel
theorem dX1_orderNodes_85 : decode cX1_orderNodes 85 = .ok (.iconst 1, 1) := by decide +kernel
theorem dX1_orderNodes_86 : decode cX1_orderNodes 86 = .ok (.iadd, 1) := by decide +kernel
theorem dX1_orderNodes_87 : decode cX1_orderNodes 87 = .ok (.iastore, 1) := by decide +kernel
theorem dX1_orderNodes_88 : decode cX1_orderNodes 88 = .ok (.aload_n 0, 1) := by decide +kernel
theorem dX1_orderNodes_89 : decode cX1_orderNodes 89 = .ok (.getfield 29, 3) := by decide +kernel
theorem dX1_orderNodes_92 : decode cX1_orderNodes 92 = .ok (.iload_n 2, 1) := by decide +kernel
theorem dX1_orderNodes_93 : decode cX1_orderNodes 93 = .ok (.iload 5, 2) := by decide +kernel
theorem dX1_orderNodes_95 : decode cX1_orderNodes 95 = .ok (.iastore, 1) := by decide +kernel
theorem dX1_orderNodes_96 : decode cX1_orderNodes 96 = .ok (.iinc 2 1, 3) := by decide +kernel
theorem dX1_orderNodes_99 : decode cX1_orderNodes 99 = .ok (.iinc 5 1, 3) := by decide +kernel
theorem dX1_orderNodes_102 : decode cX1_orderNodes 102 = .ok (.goto (-57), 3) := by decide +kernel
theorem dX1_orderNodes_105 : decode cX1_orderNodes 105 = .ok (.aload_n 0, 1) := by decide +kernel
theorem dX1_orderNodes_106 : decode cX1_orderNodes 106 = .ok (.getfield 35, 3) := by decide +kernel
theorem dX1_orderNodes_109 : decode cX1_orderNodes 109 = .ok (.iload 4, 2) := by decide +kernel
theorem dX1_orderNodes_111 : decode cX1_orderNodes 111 = .ok (.iload_n 2, 1) := by decide +kernel
theorem dX1_orderNodes_112 : decode cX1_orderNodes 112 = .ok (.aload_n 0, 1) := by decide +kernel
theorem dX1_orderNodes_113 : decode cX1_orderNodes 113 = .ok (.getfield 32, 3) := by decide +kernel
theorem dX1_orderNodes_116 : decode cX1_orderNodes 116 = .ok (.iload 4, 2) := by decide +kernel
theorem dX1_orderNodes_118 : decode cX1_orderNodes 118 = .ok (.iaload, 1) := by decide +kernel
theorem dX1_orderNodes_119 : decode cX1_orderNodes 119 = .ok (.isub, 1) := by decide +kernel
theorem dX1_orderNodes_120 : decode cX1_orderNodes 120 = .ok (.iastore, 1) := by decide +kernel
theorem dX1_orderNodes_121 : decode cX1_orderNodes 121 = .ok (.iinc 3 1, 3) := by decide +kernel
theorem dX1_orderNodes_124 : decode cX1_orderNodes 124 = .ok (.goto (-106), 3) := by decide +kernel
theorem dX1_orderNodes_127 : decode cX1_orderNodes 127 = .ok (.return_, 1) := by decide +kernel
set_option maxRecDepth 20000 in
theorem ggX1_sumSizes_X1_isLeaf : GoodIn wsX1_sumSizes wsX1_isLeaf := goodIn_r _ [11, 4, 19, 20, 21, 22, 23, 24, 25, 26] (by decide +kernel) (by decide +kernel)
set_option maxRecDepth 20000 in
theorem gX1_sumSizes_X1_isLeaf : GoodIn wsX1_sumSizes (wsV RX1 45 RX1 yX1_isLeaf wsX1_isLeaf) := goodIn_app (goodIn_of _ (by decide +kernel)) ggX1_sumSizes_X1_isLeaf
theorem dX1_sumSizes_0 : decode cX1_sumSizes 0 = .ok (.aload_n 1, 1) := by decide +kernel
theorem dX1_sumSizes_1 : decode cX1_sumSizes 1 = .ok (.getfield 73, 3) := by decide +kernel
theorem dX1_sumSizes_4 : decode cX1_sumSizes 4 = .ok (.iconst 1, 1) := by decide +kernel
theorem dX1_sumSizes_5 : decode cX1_sumSizes 5 = .ok (.isub, 1) := by decide +kernel
theorem dX1_sumSizes_6 : decode cX1_sumSizes 6 = .ok (.istore_n 2, 1) := by decide +kernel
theorem dX1_sumSizes_7 : decode cX1_sumSizes 7 = .ok (.iload_n 2, 1) := by decide +kernel
theorem dX1_sumSizes_8 : decode cX1_sumSizes 8 = .ok (.ifCond .lt 97, 3) := by decide +kernel
theorem dX1_sumSizes_11 : decode cX1_sumSizes 11 = .ok (.aload_n 0, 1) := by decide +kernel
theorem dX1_sumSizes_12 : decode cX1_sumSizes 12 = .ok (.getfield 29, 3) := by decide +kernel
theorem dX1_sumSizes_15 : decode cX1_sumSizes 15 = .ok (.iload_n 2, 1) := by decide +kernel
theorem dX1_sumSizes_16 : decode cX1_sumSizes 16 = .ok (.iaload, 1) := by decide +kernel
theorem dX1_sumSizes_17 : decode cX1_sumSizes 17 = .ok (.istore_n 3, 1) := by decide +kernel
theorem dX1_sumSizes_18 : decode cX1_sumSizes 18 = .ok (.iconst 0, 1) := by decide +kernel
theorem dX1_sumSizes_19 : decode cX1_sumSizes 19 = .ok (.istore 4, 2) := by decide +kernel
theorem dX1_sumSizes_21 : decode cX1_sumSizes 21 = .ok (.aload_n 0, 1) := by decide +kernel
theorem dX1_sumSizes_22 : decode cX1_sumSizes 22 = .ok (.getfield 32, 3) := by decide +kernel
theorem dX1_sumSizes_25 : decode cX1_sumSizes 25 = .ok (.iload_n 3, 1) := by decide +kernel
theorem dX1_sumSizes_26 : decode cX1_sumSizes 26 = .ok (.iaload, 1) := by decide +kernel
theorem dX1_sumSizes_27 : decode cX1_sumSizes 27 = .ok (.aload_n 0, 1) := by decide +kernel
theorem dX1_sumSizes_28 : decode cX1_sumSizes 28 = .ok (.getfield 35, 3) := by decide +kernel
theorem dX1_sumSizes_31 : decode cX1_sumSizes 31 = .ok (.iload_n 3, 1) := by decide +kernel
theorem dX1_sumSizes_32 : decode cX1_sumSizes 32 = .ok (.iaload, 1) := by decide +kernel
theorem dX1_sumSizes_33 : decode cX1_sumSizes 33 = .ok (.iadd, 1) := by decide +kernel
theorem dX1_sumSizes_34 : decode cX1_sumSizes 34 = .ok (.istore 5, 2) := by decide +kernel
theorem dX1_sumSizes_36 : decode cX1_sumSizes 36 = .ok (.aload_n 0, 1) := by decide +kernel
theorem dX1_sumSizes_37 : decode cX1_sumSizes 37 = .ok (.getfield 32, 3) := by decide +kernel
theorem dX1_sumSizes_40 : decode cX1_sumSizes 40 = .ok (.iload_n 3, 1) := by decide +kernel
theorem dX1_sumSizes_41 : decode cX1_sumSizes 41 = .ok (.iaload, 1) := by decide +kernel
theorem dX1_sumSizes_42 : decode cX1_sumSizes 42 = .ok (.istore 6, 2) := by decide +kernel
theorem dX1_sumSizes_44 : decode cX1_sumSizes 44 = .ok (.iload 6, 2) := by decide +kernel
theorem dX1_sumSizes_46 : decode cX1_sumSizes 46 = .ok (.iload 5, 2) := by decide +kernel
theorem dX1_sumSizes_48 : decode cX1_sumSizes 48 = .ok (.if_icmp .ge 26, 3) := by decide +kernel
theorem dX1_sumSizes_51 : decode cX1_sumSizes 51 = .ok (.iload 4, 2) := by decide +kernel
theorem dX1_sumSizes_53 : decode cX1_sumSizes 53 = .ok (.aload_n 0, 1) := by decide +kernel
theorem dX1_sumSizes_54 : decode cX1_sumSizes 54 = .ok (.getfield 9, 3) := by decide +kernel
theorem dX1_sumSizes_57 : decode cX1_sumSizes 57 = .ok (.aload_n 0, 1) := by decide +kernel
theorem dX1_sumSizes_58 : decode cX1_sumSizes 58 = .ok (.getfield 29, 3) := by decide +kernel
theorem dX1_sumSizes_61 : decode cX1_sumSizes 61 = .ok (.iload 6, 2) := by decide +kernel
theorem dX1_sumSizes_63 : decode cX1_sumSizes 63 = .ok (.iaload, 1) := by decide +kernel
theorem dX1_sumSizes_64 : decode cX1_sumSizes 64 = .ok (.iaload, 1) := by decide +kernel
theorem dX1_sumSizes_65 : decode cX1_sumSizes 65 = .ok (.iadd, 1) := by decide +kernel
theorem dX1_sumSizes_66 : decode cX1_sumSizes 66 = .ok (.istore 4, 2) := by decide +kernel
theorem dX1_sumSizes_68 : decode cX1_sumSizes 68 = .ok (.iinc 6 1, 3) := by decide +kernel
theorem dX1_sumSizes_71 : decode cX1_sumSizes 71 = .ok (.goto (-27), 3) := by decide +kernel
theorem dX1_sumSizes_74 : decode cX1_sumSizes 74 = .ok (.aload_n 0, 1) := by decide +kernel
theorem dX1_sumSizes_75 : decode cX1_sumSizes 75 = .ok (.getfield 9, 3) := by decide +kernel
theorem dX1_sumSizes_78 : decode cX1_sumSizes 78 = .ok (.iload_n 3, 1) := by decide +kernel
theorem dX1_sumSizes_79 : decode cX1_sumSizes 79 = .ok (.aload_n 0, 1) := by decide +kernel
theorem dX1_sumSizes_80 : decode cX1_sumSizes 80 = .ok (.iload_n 3, 1) := by decide +kernel
theorem dX1_sumSizes_81 : decode cX1_sumSizes 81 = .ok (.invokevirtual 45, 3) := by decide +kernel
theorem dX1_sumSizes_84 : decode cX1_sumSizes 84 = .ok (.ifCond .eq 12, 3) := by decide +kernel
theorem dX1_sumSizes_87 : decode cX1_sumSizes 87 = .ok (.aload_n 1, 1) := by decide +kernel
theorem dX1_sumSizes_88 : decode cX1_sumSizes 88 = .ok (.getfield 83, 3) := by decide +kernel
theorem dX1_sumSizes_91 : decode cX1_sumSizes 91 = .ok (.iload_n 3, 1) := by decide +kernel
theorem dX1_sumSizes_92 : decode cX1_sumSizes 92 = .ok (.iaload, 1) := by decide +kernel
theorem dX1_sumSizes_93 : decode cX1_sumSizes 93 = .ok (.goto 5, 3) := by decide +kernel
theorem dX1_sumSizes_96 : decode cX1_sumSizes 96 = .ok (.iload 4, 2) := by decide +kernel
theorem dX1_sumSizes_98 : decode cX1_sumSizes 98 = .ok (.iastore, 1) := by decide +kernel
theorem dX1_sumSizes_99 : decode cX1_sumSizes 99 = .ok (.iinc 2 (-1), 3) := by decide +kernel
theorem dX1_sumSizes_102 : decode cX1_sumSizes 102 = .ok (.goto (-95), 3) := by decide +kernel
theorem dX1_sumSizes_105 : decode cX1_sumSizes 105 = .ok (.return_, 1) := by decide +kernel
set_option maxRecDepth 20000 in
theorem ggX1_placeChildren_X2_open : GoodIn wsX1_placeChildren wsX2_open := goodIn_r _ [19, 20, 21, 22, 23, 24, 25, 26, 27, 28, 29, 30, 176, 177, 178, 179, 180, 181, 182, 183, 184, 185, 186, 187] (by decide +kernel) (by decide +kernel)
set_option maxRecDepth 20000 in
theorem gX1_placeChildren_X2_open : GoodIn wsX1_placeChildren (wsV RX1 101 RX2 yX2_open wsX2_open) := goodIn_app (goodIn_of _ (by decide +kernel)) ggX1_placeChildren_X2_open
set_option maxRecDepth 20000 in
theorem ggX1_placeChildren_X2_hasNoRoom : GoodIn wsX1_placeChildren wsX2_hasNoRoom := goodIn_r _ [34, 21, 35, 36, 37, 25, 38, 29, 30, 176, 177, 178, 179, 180, 181, 182, 183, 184, 185, 186, 187] (by decide +kernel) (by decide +kernel)
set_option maxRecDepth 20000 in
theorem gX1_placeChildren_X2_hasNoRoom : GoodIn wsX1_placeChildren (wsV RX1 105 RX2 yX2_hasNoRoom wsX2_hasNoRoom) := goodIn_app (goodIn_of _ (by decide +kernel)) ggX1_placeChildren_X2_hasNoRoom
set_option maxRecDepth 20000 in
theorem ggX1_placeChildren_X3_put : GoodIn wsX1_placeChildren wsX3_put := goodIn_r _ [43, 44, 45, 46, 47, 172, 173, 174, 175] (by decide +kernel) (by decide +kernel)
set_option maxRecDepth 20000 in
theorem gX1_placeChildren_X3_put : GoodIn wsX1_placeChildren (wsV RX1 69 RX3 yX3_put wsX3_put) := goodIn_app (goodIn_of _ (by decide +kernel)) ggX1_placeChildren_X3_put
set_option maxRecDepth 20000 in
theorem ggX1_placeChildren_X2_add : GoodIn wsX1_placeChildren wsX2_add := goodIn_r _ [51, 20, 52, 53, 176, 177, 178, 179, 180, 181, 182, 183] (by decide +kernel) (by decide +kernel)
set_option maxRecDepth 20000 in
theorem gX1_placeChildren_X2_add : GoodIn wsX1_placeChildren (wsV RX1 109 RX2 yX2_add wsX2_add) := goodIn_app (goodIn_of _ (by decide +kernel)) ggX1_placeChildren_X2_add
set_option maxRecDepth 20000 in
theorem ggX1_placeChildren_X1_isLeaf : GoodIn wsX1_placeChildren wsX1_isLeaf := goodIn_r _ [58, 9, 164, 165, 166, 167, 168, 169, 170, 171] (by decide +kernel) (by decide +kernel)
set_option maxRecDepth 20000 in
theorem gX1_placeChildren_X1_isLeaf : GoodIn wsX1_placeChildren (wsV RX1 45 RX1 yX1_isLeaf wsX1_isLeaf) := goodIn_app (goodIn_of _ (by decide +kernel)) ggX1_placeChildren_X1_isLeaf
set_option maxRecDepth 20000 in
theorem ggX1_placeChildren_X2_slice : GoodIn wsX1_placeChildren wsX2_slice := goodIn_r _ [62, 63, 21, 64, 65, 66, 67, 20, 22, 23, 24, 25, 26, 27, 28, 29, 30, 68, 69, 70, 18, 71, 72, 53, 73, 52, 74, 75, 76, 77, 78, 79, 80, 81, 82, 83, 84, 85, 86, 87, 88, 89, 90, 91, 92, 93, 94, 95, 40, 41, 42, 43, 44, 45, 46, 47, 176, 177, 178, 179, 180, 181, 182, 183, 184, 185, 186, 187, 188, 189, 190, 191, 172, 173, 174, 175] (by decide +kernel) (by decide +kernel)
set_option maxRecDepth 20000 in
theorem gX1_placeChildren_X2_slice : GoodIn wsX1_placeChildren (wsV RX1 116 RX2 yX2_slice wsX2_slice) := goodIn_app (goodIn_of _ (by decide +kernel)) ggX1_placeChildren_X2_slice
set_option maxRecDepth 20000 in
theorem ggX1_placeChildren_X2_strip : GoodIn wsX1_placeChildren wsX2_strip := goodIn_r _ [99, 100, 21, 67, 65, 101, 63, 64, 66, 73, 102, 103, 104, 105, 18, 106, 20, 107, 108, 109, 110, 111, 112, 113, 114, 53, 74, 75, 76, 77, 78, 79, 115, 116, 117, 118, 119, 120, 121, 122, 123, 124, 80, 81, 82, 83, 84, 85, 86, 87, 88, 89, 90, 91, 92, 93, 94, 22, 23, 24, 25, 26, 27, 28, 29, 30, 68, 69, 70, 71, 72, 52, 95, 40, 41, 42, 43, 44, 45, 46, 47, 176, 177, 178, 179, 180, 181, 182, 183, 184, 185, 186, 187, 188, 189, 190, 191, 172, 173, 174, 175] (by decide +kernel) (by decide +kernel)
set_option maxRecDepth 20000 in
theorem gX1_placeChildren_X2_strip : GoodIn wsX1_placeChildren (wsV RX1 120 RX2 yX2_strip wsX2_strip) := goodIn_app (goodIn_of _ (by decide +kernel)) ggX1_placeChildren_X2_strip
set_option maxRecDepth 20000 in
theorem ggX1_placeChildren_X2_squarify : GoodIn wsX1_placeChildren wsX2_squarify := goodIn_r _ [128, 20, 21, 67, 66, 129, 130, 131, 18, 132, 52, 53, 35, 36, 37, 25, 38, 29, 30, 133, 134, 135, 136, 64, 65, 95, 40, 41, 42, 43, 44, 45, 46, 47, 137, 138, 139, 140, 141, 142, 143, 144, 107, 108, 109, 110, 111, 112, 113, 114, 145, 146, 147, 148, 119, 120, 121, 122, 123, 124, 149, 150, 151, 152, 63, 153, 154, 155, 156, 22, 23, 24, 26, 27, 28, 68, 69, 70, 71, 72, 73, 74, 75, 76, 77, 78, 79, 80, 81, 82, 83, 84, 85, 86, 87, 88, 89, 90, 91, 92, 93, 94, 176, 177, 178, 179, 180, 181, 182, 183, 184, 185, 186, 187, 172, 173, 174, 175, 188, 189, 190, 191] (by decide +kernel) (by decide +kernel)
set_option maxRecDepth 20000 in
theorem gX1_placeChildren_X2_squarify : GoodIn wsX1_placeChildren (wsV RX1 124 RX2 yX2_squarify wsX2_squarify) := goodIn_app (goodIn_of _ (by decide +kernel)) ggX1_placeChildren_X2_squarify
theorem dX1_placeChildren_0 : decode cX1_placeChildren 0 = .ok (.aload_n 2, 1) := by decide +kernel
theorem dX1_placeChildren_1 : decode cX1_placeChildren 1 = .ok (.getfield 86, 3) := by decide +kernel
theorem dX1_placeChildren_4 : decode cX1_placeChildren 4 = .ok (.istore_n 3, 1) := by decide +kernel
theorem dX1_placeChildren_5 : decode cX1_placeChildren 5 = .ok (.aload_n 0, 1) := by decide +kernel
theorem dX1_placeChildren_6 : decode cX1_placeChildren 6 = .ok (.getfield 41, 3) := by decide +kernel
theorem dX1_placeChildren_9 : decode cX1_placeChildren 9 = .ok (.aload_n 0, 1) := by decide +kernel
theorem dX1_placeChildren_10 : decode cX1_placeChildren 10 = .ok (.getfield 25, 3) := by decide +kernel
theorem dX1_placeChildren_13 : decode cX1_placeChildren 13 = .ok (.getfield 89, 3) := by decide +kernel
theorem dX1_placeChildren_16 : decode cX1_placeChildren 16 = .ok (.iload_n 1, 1) := by decide +kernel
theorem dX1_placeChildren_17 : decode cX1_placeChildren 17 = .ok (.iaload, 1) := by decide +kernel
theorem dX1_placeChildren_18 : decode cX1_placeChildren 18 = .ok (.iload_n 3, 1) := by decide +kernel
theorem dX1_placeChildren_19 : decode cX1_placeChildren 19 = .ok (.iadd, 1) := by decide +kernel
theorem dX1_placeChildren_20 : decode cX1_placeChildren 20 = .ok (.aload_n 0, 1) := by decide +kernel
theorem dX1_placeChildren_21 : decode cX1_placeChildren 21 = .ok (.getfield 25, 3) := by decide +kernel
theorem dX1_placeChildren_24 : decode cX1_placeChildren 24 = .ok (.getfield 92, 3) := by decide +kernel
theorem dX1_placeChildren_27 : decode cX1_placeChildren 27 = .ok (.iload_n 1, 1) := by decide +kernel
theorem dX1_placeChildren_28 : decode cX1_placeChildren 28 = .ok (.iaload, 1) := by decide +kernel
theorem dX1_placeChildren_29 : decode cX1_placeChildren 29 = .ok (.iload_n 3, 1) := by decide +kernel
theorem dX1_placeChildren_30 : decode cX1_placeChildren 30 = .ok (.iadd, 1) := by decide +kernel
theorem dX1_placeChildren_31 : decode cX1_placeChildren 31 = .ok (.aload_n 0, 1) := by decide +kernel
theorem dX1_placeChildren_32 : decode cX1_placeChildren 32 = .ok (.getfield 25, 3) := by decide +kernel
theorem dX1_placeChildren_35 : decode cX1_placeChildren 35 = .ok (.getfield 95, 3) := by decide +kernel
theorem dX1_placeChildren_38 : decode cX1_placeChildren 38 = .ok (.iload_n 1, 1) := by decide +kernel
theorem dX1_placeChildren_39 : decode cX1_placeChildren 39 = .ok (.iaload, 1) := by decide +kernel
theorem dX1_placeChildren_40 : decode cX1_placeChildren 40 = .ok (.iconst 2, 1) := by decide +kernel
theorem dX1_placeChildren_41 : decode cX1_placeChildren 41 = .ok (.iload_n 3, 1) := by decide +kernel
theorem dX1_placeChildren_42 : decode cX1_placeChildren 42 = .ok (.imul, 1) := by decide +kernel
theorem dX1_placeChildren_43 : decode cX1_placeChildren 43 = .ok (.isub, 1) := by decide +kernel
theorem dX1_placeChildren_44 : decode cX1_placeChildren 44 = .ok (.aload_n 0, 1) := by decide +kernel
theorem dX1_placeChildren_45 : decode cX1_placeChildren 45 = .ok (.getfield 25, 3) := by decide +kernel
theorem dX1_placeChildren_48 : decode cX1_placeChildren 48 = .ok (.getfield 98, 3) := by decide +kernel
theorem dX1_placeChildren_51 : decode cX1_placeChildren 51 = .ok (.iload_n 1, 1) := by decide +kernel
theorem dX1_placeChildren_52 : decode cX1_placeChildren 52 = .ok (.iaload, 1) := by decide +kernel
theorem dX1_placeChildren_53 : decode cX1_placeChildren 53 = .ok (.iconst 2, 1) := by decide +kernel
theorem dX1_placeChildren_54 : decode cX1_placeChildren 54 = .ok (.iload_n 3, 1) := by decide +kernel
theorem dX1_placeChildren_55 : decode cX1_placeChildren 55 = .ok (.imul, 1) := by decide +kernel
theorem dX1_placeChildren_56 : decode cX1_placeChildren 56 = .ok (.isub, 1) := by decide +kernel
theorem dX1_placeChildren_57 : decode cX1_placeChildren 57 = .ok (.invokevirtual 101, 3) := by decide +kernel
theorem dX1_placeChildren_60 : decode cX1_placeChildren 60 = .ok (.aload_n 0, 1) := by decide +kernel
theorem dX1_placeChildren_61 : decode cX1_placeChildren 61 = .ok (.getfield 41, 3) := by decide +kernel
theorem dX1_placeChildren_64 : decode cX1_placeChildren 64 = .ok (.invokevirtual 105, 3) := by decide +kernel
theorem dX1_placeChildren_67 : decode cX1_placeChildren 67 = .ok (.istore 4, 2) := by decide +kernel
theorem dX1_placeChildren_69 : decode cX1_placeChildren 69 = .ok (.aload_n 0, 1) := by decide +kernel
theorem dX1_placeChildren_70 : decode cX1_placeChildren 70 = .ok (.getfield 32, 3) := by decide +kernel
theorem dX1_placeChildren_73 : decode cX1_placeChildren 73 = .ok (.iload_n 1, 1) := by decide +kernel
theorem dX1_placeChildren_74 : decode cX1_placeChildren 74 = .ok (.iaload, 1) := by decide +kernel
theorem dX1_placeChildren_75 : decode cX1_placeChildren 75 = .ok (.aload_n 0, 1) := by decide +kernel
theorem dX1_placeChildren_76 : decode cX1_placeChildren 76 = .ok (.getfield 35, 3) := by decide +kernel
end
section
theorem dX1_placeChildren_79 : decode cX1_placeChildren 79 = .ok (.iload_n 1, 1) := by decide +kernel
theorem dX1_placeChildren_80 : decode cX1_placeChildren 80 = .ok (.iaload, 1) := by decide +kernel
theorem dX1_placeChildren_81 : decode cX1_placeChildren 81 = .ok (.iadd, 1) := by decide +kernel
theorem dX1_placeChildren_82 : decode cX1_placeChildren 82 = .ok (.istore 5, 2) := by decide +kernel
theorem dX1_placeChildren_84 : decode cX1_placeChildren 84 = .ok (.aload_n 0, 1) := by decide +kernel
theorem dX1_placeChildren_85 : decode cX1_placeChildren 85 = .ok (.getfield 32, 3) := by decide +kernel
theorem dX1_placeChildren_88 : decode cX1_placeChildren 88 = .ok (.iload_n 1, 1) := by decide +kernel
theorem dX1_placeChildren_89 : decode cX1_placeChildren 89 = .ok (.iaload, 1) := by decide +kernel
theorem dX1_placeChildren_90 : decode cX1_placeChildren 90 = .ok (.istore 6, 2) := by decide +kernel
theorem dX1_placeChildren_92 : decode cX1_placeChildren 92 = .ok (.iload 6, 2) := by decide +kernel
theorem dX1_placeChildren_94 : decode cX1_placeChildren 94 = .ok (.iload 5, 2) := by decide +kernel
theorem dX1_placeChildren_96 : decode cX1_placeChildren 96 = .ok (.if_icmp .ge 56, 3) := by decide +kernel
theorem dX1_placeChildren_99 : decode cX1_placeChildren 99 = .ok (.aload_n 0, 1) := by decide +kernel
theorem dX1_placeChildren_100 : decode cX1_placeChildren 100 = .ok (.getfield 29, 3) := by decide +kernel
theorem dX1_placeChildren_103 : decode cX1_placeChildren 103 = .ok (.iload 6, 2) := by decide +kernel
theorem dX1_placeChildren_105 : decode cX1_placeChildren 105 = .ok (.iaload, 1) := by decide +kernel
theorem dX1_placeChildren_106 : decode cX1_placeChildren 106 = .ok (.istore 7, 2) := by decide +kernel
theorem dX1_placeChildren_108 : decode cX1_placeChildren 108 = .ok (.aload_n 0, 1) := by decide +kernel
theorem dX1_placeChildren_109 : decode cX1_placeChildren 109 = .ok (.getfield 18, 3) := by decide +kernel
theorem dX1_placeChildren_112 : decode cX1_placeChildren 112 = .ok (.iload 7, 2) := by decide +kernel
theorem dX1_placeChildren_114 : decode cX1_placeChildren 114 = .ok (.iload 4, 2) := by decide +kernel
theorem dX1_placeChildren_116 : decode cX1_placeChildren 116 = .ok (.bastore, 1) := by decide +kernel
theorem dX1_placeChildren_117 : decode cX1_placeChildren 117 = .ok (.aload_n 0, 1) := by decide +kernel
theorem dX1_placeChildren_118 : decode cX1_placeChildren 118 = .ok (.getfield 25, 3) := by decide +kernel
theorem dX1_placeChildren_121 : decode cX1_placeChildren 121 = .ok (.iload 7, 2) := by decide +kernel
theorem dX1_placeChildren_123 : decode cX1_placeChildren 123 = .ok (.iconst 0, 1) := by decide +kernel
theorem dX1_placeChildren_124 : decode cX1_placeChildren 124 = .ok (.iconst 0, 1) := by decide +kernel
theorem dX1_placeChildren_125 : decode cX1_placeChildren 125 = .ok (.iconst 0, 1) := by decide +kernel
theorem dX1_placeChildren_126 : decode cX1_placeChildren 126 = .ok (.iconst 0, 1) := by decide +kernel
theorem dX1_placeChildren_127 : decode cX1_placeChildren 127 = .ok (.invokevirtual 69, 3) := by decide +kernel
theorem dX1_placeChildren_130 : decode cX1_placeChildren 130 = .ok (.aload_n 0, 1) := by decide +kernel
theorem dX1_placeChildren_131 : decode cX1_placeChildren 131 = .ok (.getfield 41, 3) := by decide +kernel
theorem dX1_placeChildren_134 : decode cX1_placeChildren 134 = .ok (.iload 7, 2) := by decide +kernel
theorem dX1_placeChildren_136 : decode cX1_placeChildren 136 = .ok (.aload_n 0, 1) := by decide +kernel
theorem dX1_placeChildren_137 : decode cX1_placeChildren 137 = .ok (.getfield 9, 3) := by decide +kernel
theorem dX1_placeChildren_140 : decode cX1_placeChildren 140 = .ok (.iload 7, 2) := by decide +kernel
theorem dX1_placeChildren_142 : decode cX1_placeChildren 142 = .ok (.iaload, 1) := by decide +kernel
theorem dX1_placeChildren_143 : decode cX1_placeChildren 143 = .ok (.invokevirtual 109, 3) := by decide +kernel
theorem dX1_placeChildren_146 : decode cX1_placeChildren 146 = .ok (.iinc 6 1, 3) := by decide +kernel
theorem dX1_placeChildren_149 : decode cX1_placeChildren 149 = .ok (.goto (-57), 3) := by decide +kernel
theorem dX1_placeChildren_152 : decode cX1_placeChildren 152 = .ok (.iload 4, 2) := by decide +kernel
theorem dX1_placeChildren_154 : decode cX1_placeChildren 154 = .ok (.ifCond .ne 11, 3) := by decide +kernel
theorem dX1_placeChildren_157 : decode cX1_placeChildren 157 = .ok (.aload_n 0, 1) := by decide +kernel
theorem dX1_placeChildren_158 : decode cX1_placeChildren 158 = .ok (.iload_n 1, 1) := by decide +kernel
theorem dX1_placeChildren_159 : decode cX1_placeChildren 159 = .ok (.invokevirtual 45, 3) := by decide +kernel
theorem dX1_placeChildren_162 : decode cX1_placeChildren 162 = .ok (.ifCond .eq 4, 3) := by decide +kernel
theorem dX1_placeChildren_165 : decode cX1_placeChildren 165 = .ok (.return_, 1) := by decide +kernel
theorem dX1_placeChildren_166 : decode cX1_placeChildren 166 = .ok (.aload_n 2, 1) := by decide +kernel
theorem dX1_placeChildren_167 : decode cX1_placeChildren 167 = .ok (.getfield 113, 3) := by decide +kernel
theorem dX1_placeChildren_170 : decode cX1_placeChildren 170 = .ok (.lookupswitch 70 #[(0, 26), (1, 56)], 26) := by decide +kernel
theorem dX1_placeChildren_196 : decode cX1_placeChildren 196 = .ok (.aload_n 0, 1) := by decide +kernel
theorem dX1_placeChildren_197 : decode cX1_placeChildren 197 = .ok (.getfield 41, 3) := by decide +kernel
theorem dX1_placeChildren_200 : decode cX1_placeChildren 200 = .ok (.aload_n 0, 1) := by decide +kernel
theorem dX1_placeChildren_201 : decode cX1_placeChildren 201 = .ok (.getfield 15, 3) := by decide +kernel
theorem dX1_placeChildren_204 : decode cX1_placeChildren 204 = .ok (.iload_n 1, 1) := by decide +kernel
theorem dX1_placeChildren_205 : decode cX1_placeChildren 205 = .ok (.iaload, 1) := by decide +kernel
theorem dX1_placeChildren_206 : decode cX1_placeChildren 206 = .ok (.iconst 2, 1) := by decide +kernel
theorem dX1_placeChildren_207 : decode cX1_placeChildren 207 = .ok (.irem, 1) := by decide +kernel
theorem dX1_placeChildren_208 : decode cX1_placeChildren 208 = .ok (.ifCond .ne 7, 3) := by decide +kernel
theorem dX1_placeChildren_211 : decode cX1_placeChildren 211 = .ok (.iconst 1, 1) := by decide +kernel
theorem dX1_placeChildren_212 : decode cX1_placeChildren 212 = .ok (.goto 4, 3) := by decide +kernel
theorem dX1_placeChildren_215 : decode cX1_placeChildren 215 = .ok (.iconst 0, 1) := by decide +kernel
theorem dX1_placeChildren_216 : decode cX1_placeChildren 216 = .ok (.aload_n 0, 1) := by decide +kernel
theorem dX1_placeChildren_217 : decode cX1_placeChildren 217 = .ok (.getfield 25, 3) := by decide +kernel
theorem dX1_placeChildren_220 : decode cX1_placeChildren 220 = .ok (.invokevirtual 116, 3) := by decide +kernel
theorem dX1_placeChildren_223 : decode cX1_placeChildren 223 = .ok (.goto 28, 3) := by decide +kernel
theorem dX1_placeChildren_226 : decode cX1_placeChildren 226 = .ok (.aload_n 0, 1) := by decide +kernel
theorem dX1_placeChildren_227 : decode cX1_placeChildren 227 = .ok (.getfield 41, 3) := by decide +kernel
theorem dX1_placeChildren_230 : decode cX1_placeChildren 230 = .ok (.aload_n 0, 1) := by decide +kernel
theorem dX1_placeChildren_231 : decode cX1_placeChildren 231 = .ok (.getfield 25, 3) := by decide +kernel
theorem dX1_placeChildren_234 : decode cX1_placeChildren 234 = .ok (.invokevirtual 120, 3) := by decide +kernel
theorem dX1_placeChildren_237 : decode cX1_placeChildren 237 = .ok (.goto 14, 3) := by decide +kernel
theorem dX1_placeChildren_240 : decode cX1_placeChildren 240 = .ok (.aload_n 0, 1) := by decide +kernel
theorem dX1_placeChildren_241 : decode cX1_placeChildren 241 = .ok (.getfield 41, 3) := by decide +kernel
theorem dX1_placeChildren_244 : decode cX1_placeChildren 244 = .ok (.aload_n 0, 1) := by decide +kernel
theorem dX1_placeChildren_245 : decode cX1_placeChildren 245 = .ok (.getfield 25, 3) := by decide +kernel
theorem dX1_placeChildren_248 : decode cX1_placeChildren 248 = .ok (.invokevirtual 124, 3) := by decide +kernel
theorem dX1_placeChildren_251 : decode cX1_placeChildren 251 = .ok (.return_, 1) := by decide +kernel
set_option maxRecDepth 20000 in
theorem ggX2_init_X0_init : GoodIn wsX2_init wsX0_init := goodIn_r _ [19, 20, 2, 3] (by decide +kernel) (by decide +kernel)
set_option maxRecDepth 20000 in
theorem gX2_init_X0_init_n20 : GoodIn wsX2_init (wsX0_init) := ggX2_init_X0_init
set_option maxRecDepth 20000 in
theorem ggX2_init_X4_init : GoodIn wsX2_init wsX4_init := goodIn_r _ [22, 23, 2, 3, 4, 24, 25, 26, 39, 40, 41, 42] (by decide +kernel) (by decide +kernel)
set_option maxRecDepth 20000 in
theorem gX2_init_X4_init_n30 : GoodIn wsX2_init (wsX4_init) := ggX2_init_X4_init
theorem dX2_init_0 : decode cX2_init 0 = .ok (.aload_n 0, 1) := by decide +kernel
theorem dX2_init_1 : decode cX2_init 1 = .ok (.invokespecial 3, 3) := by decide +kernel
theorem dX2_init_4 : decode cX2_init 4 = .ok (.aload_n 0, 1) := by decide +kernel
theorem dX2_init_5 : decode cX2_init 5 = .ok (.bipush 24, 2) := by decide +kernel
theorem dX2_init_7 : decode cX2_init 7 = .ok (.newarray .int, 2) := by decide +kernel
theorem dX2_init_9 : decode cX2_init 9 = .ok (.putfield 9, 3) := by decide +kernel
theorem dX2_init_12 : decode cX2_init 12 = .ok (.aload_n 0, 1) := by decide +kernel
theorem dX2_init_13 : decode cX2_init 13 = .ok (.bipush 24, 2) := by decide +kernel
theorem dX2_init_15 : decode cX2_init 15 = .ok (.newarray .int, 2) := by decide +kernel
theorem dX2_init_17 : decode cX2_init 17 = .ok (.putfield 15, 3) := by decide +kernel
theorem dX2_init_20 : decode cX2_init 20 = .ok (.aload_n 0, 1) := by decide +kernel
theorem dX2_init_21 : decode cX2_init 21 = .ok (.new 18, 3) := by decide +kernel
theorem dX2_init_24 : decode cX2_init 24 = .ok (.dup, 1) := by decide +kernel
theorem dX2_init_25 : decode cX2_init 25 = .ok (.invokespecial 20, 3) := by decide +kernel
theorem dX2_init_28 : decode cX2_init 28 = .ok (.putfield 21, 3) := by decide +kernel
theorem dX2_init_31 : decode cX2_init 31 = .ok (.aload_n 0, 1) := by decide +kernel
theorem dX2_init_32 : decode cX2_init 32 = .ok (.new 18, 3) := by decide +kernel
theorem dX2_init_35 : decode cX2_init 35 = .ok (.dup, 1) := by decide +kernel
theorem dX2_init_36 : decode cX2_init 36 = .ok (.invokespecial 20, 3) := by decide +kernel
theorem dX2_init_39 : decode cX2_init 39 = .ok (.putfield 25, 3) := by decide +kernel
theorem dX2_init_42 : decode cX2_init 42 = .ok (.aload_n 0, 1) := by decide +kernel
theorem dX2_init_43 : decode cX2_init 43 = .ok (.new 28, 3) := by decide +kernel
theorem dX2_init_46 : decode cX2_init 46 = .ok (.dup, 1) := by decide +kernel
theorem dX2_init_47 : decode cX2_init 47 = .ok (.invokespecial 30, 3) := by decide +kernel
theorem dX2_init_50 : decode cX2_init 50 = .ok (.putfield 31, 3) := by decide +kernel
theorem dX2_init_53 : decode cX2_init 53 = .ok (.aload_n 0, 1) := by decide +kernel
theorem dX2_init_54 : decode cX2_init 54 = .ok (.new 28, 3) := by decide +kernel
theorem dX2_init_57 : decode cX2_init 57 = .ok (.dup, 1) := by decide +kernel
theorem dX2_init_58 : decode cX2_init 58 = .ok (.invokespecial 30, 3) := by decide +kernel
theorem dX2_init_61 : decode cX2_init 61 = .ok (.putfield 35, 3) := by decide +kernel
theorem dX2_init_64 : decode cX2_init 64 = .ok (.aload_n 0, 1) := by decide +kernel
theorem dX2_init_65 : decode cX2_init 65 = .ok (.bipush 24, 2) := by decide +kernel
theorem dX2_init_67 : decode cX2_init 67 = .ok (.newarray .int, 2) := by decide +kernel
theorem dX2_init_69 : decode cX2_init 69 = .ok (.putfield 38, 3) := by decide +kernel
theorem dX2_init_72 : decode cX2_init 72 = .ok (.return_, 1) := by decide +kernel
set_option maxRecDepth 20000 in
theorem ggX2_open_X0_set : GoodIn wsX2_open wsX0_set := goodIn_r _ [7, 8, 9, 10, 11, 20, 21, 22, 23] (by decide +kernel) (by decide +kernel)
set_option maxRecDepth 20000 in
theorem gX2_open_X0_set : GoodIn wsX2_open (wsV RX2 45 RX0 yX0_set wsX0_set) := goodIn_app (goodIn_of _ (by decide +kernel)) ggX2_open_X0_set
theorem dX2_open_0 : decode cX2_open 0 = .ok (.aload_n 0, 1) := by decide +kernel
theorem dX2_open_1 : decode cX2_open 1 = .ok (.iconst 0, 1) := by decide +kernel
theorem dX2_open_2 : decode cX2_open 2 = .ok (.putfield 41, 3) := by decide +kernel
theorem dX2_open_5 : decode cX2_open 5 = .ok (.aload_n 0, 1) := by decide +kernel
theorem dX2_open_6 : decode cX2_open 6 = .ok (.getfield 21, 3) := by decide +kernel
theorem dX2_open_9 : decode cX2_open 9 = .ok (.iload_n 1, 1) := by decide +kernel
theorem dX2_open_10 : decode cX2_open 10 = .ok (.iload_n 2, 1) := by decide +kernel
theorem dX2_open_11 : decode cX2_open 11 = .ok (.iload_n 3, 1) := by decide +kernel
theorem dX2_open_12 : decode cX2_open 12 = .ok (.iload 4, 2) := by decide +kernel
theorem dX2_open_14 : decode cX2_open 14 = .ok (.invokevirtual 45, 3) := by decide +kernel
theorem dX2_open_17 : decode cX2_open 17 = .ok (.return_, 1) := by decide +kernel
set_option maxRecDepth 20000 in
theorem ggX2_hasNoRoom_X0_isEmpty : GoodIn wsX2_hasNoRoom wsX0_isEmpty := goodIn_r _ [6, 7, 8, 17, 18, 19, 20] (by decide +kernel) (by decide +kernel)
set_option maxRecDepth 20000 in
theorem gX2_hasNoRoom_X0_isEmpty : GoodIn wsX2_hasNoRoom (wsV RX2 49 RX0 yX0_isEmpty wsX0_isEmpty) := goodIn_app (goodIn_of _ (by decide +kernel)) ggX2_hasNoRoom_X0_isEmpty
theorem dX2_hasNoRoom_0 : decode cX2_hasNoRoom 0 = .ok (.aload_n 0, 1) := by decide +kernel
theorem dX2_hasNoRoom_1 : decode cX2_hasNoRoom 1 = .ok (.getfield 21, 3) := by decide +kernel
theorem dX2_hasNoRoom_4 : decode cX2_hasNoRoom 4 = .ok (.invokevirtual 49, 3) := by decide +kernel
theorem dX2_hasNoRoom_7 : decode cX2_hasNoRoom 7 = .ok (.ireturn, 1) := by decide +kernel
theorem dX2_add_0 : decode cX2_add 0 = .ok (.aload_n 0, 1) := by decide +kernel
theorem dX2_add_1 : decode cX2_add 1 = .ok (.getfield 41, 3) := by decide +kernel
theorem dX2_add_4 : decode cX2_add 4 = .ok (.bipush 24, 2) := by decide +kernel
theorem dX2_add_6 : decode cX2_add 6 = .ok (.if_icmp .ge 33, 3) := by decide +kernel
theorem dX2_add_9 : decode cX2_add 9 = .ok (.aload_n 0, 1) := by decide +kernel
theorem dX2_add_10 : decode cX2_add 10 = .ok (.getfield 9, 3) := by decide +kernel
theorem dX2_add_13 : decode cX2_add 13 = .ok (.aload_n 0, 1) := by decide +kernel
theorem dX2_add_14 : decode cX2_add 14 = .ok (.getfield 41, 3) := by decide +kernel
theorem dX2_add_17 : decode cX2_add 17 = .ok (.iload_n 1, 1) := by decide +kernel
theorem dX2_add_18 : decode cX2_add 18 = .ok (.iastore, 1) := by decide +kernel
theorem dX2_add_19 : decode cX2_add 19 = .ok (.aload_n 0, 1) := by decide +kernel
theorem dX2_add_20 : decode cX2_add 20 = .ok (.getfield 15, 3) := by decide +kernel
theorem dX2_add_23 : decode cX2_add 23 = .ok (.aload_n 0, 1) := by decide +kernel
theorem dX2_add_24 : decode cX2_add 24 = .ok (.getfield 41, 3) := by decide +kernel
theorem dX2_add_27 : decode cX2_add 27 = .ok (.iload_n 2, 1) := by decide +kernel
theorem dX2_add_28 : decode cX2_add 28 = .ok (.iastore, 1) := by decide +kernel
theorem dX2_add_29 : decode cX2_add 29 = .ok (.aload_n 0, 1) := by decide +kernel
theorem dX2_add_30 : decode cX2_add 30 = .ok (.dup, 1) := by decide +kernel
theorem dX2_add_31 : decode cX2_add 31 = .ok (.getfield 41, 3) := by decide +kernel
theorem dX2_add_34 : decode cX2_add 34 = .ok (.iconst 1, 1) := by decide +kernel
theorem dX2_add_35 : decode cX2_add 35 = .ok (.iadd, 1) := by decide +kernel
theorem dX2_add_36 : decode cX2_add 36 = .ok (.putfield 41, 3) := by decide +kernel
theorem dX2_add_39 : decode cX2_add 39 = .ok (.return_, 1) := by decide +kernel
set_option maxRecDepth 20000 in
theorem ggX2_slice_X0_set : GoodIn wsX2_slice wsX0_set := goodIn_r _ [12, 13, 14, 15, 16, 64, 65, 66, 67] (by decide +kernel) (by decide +kernel)
set_option maxRecDepth 20000 in
theorem gX2_slice_X0_set : GoodIn wsX2_slice (wsV RX2 45 RX0 yX0_set wsX0_set) := goodIn_app (goodIn_of _ (by decide +kernel)) ggX2_slice_X0_set
set_option maxRecDepth 20000 in
theorem ggX2_slice_X2_fillBand : GoodIn wsX2_slice wsX2_fillBand := goodIn_r _ [21, 22, 23, 1, 5, 6, 24, 25, 3, 4, 26, 27, 28, 29, 30, 31, 32, 33, 34, 35, 36, 37, 38, 39, 40, 41, 42, 43, 44, 45, 46, 47, 48, 49, 50, 51, 52, 53, 54, 55, 56, 57, 58, 59, 60, 61, 62, 63, 64, 65, 66, 67, 68, 69, 70, 71, 72, 73, 74, 75] (by decide +kernel) (by decide +kernel)
set_option maxRecDepth 20000 in
theorem gX2_slice_X2_fillBand : GoodIn wsX2_slice (wsV RX2 65 RX2 yX2_fillBand wsX2_fillBand) := goodIn_app (goodIn_of _ (by decide +kernel)) ggX2_slice_X2_fillBand
theorem dX2_slice_0 : decode cX2_slice 0 = .ok (.aload_n 0, 1) := by decide +kernel
theorem dX2_slice_1 : decode cX2_slice 1 = .ok (.getfield 25, 3) := by decide +kernel
theorem dX2_slice_4 : decode cX2_slice 4 = .ok (.aload_n 0, 1) := by decide +kernel
theorem dX2_slice_5 : decode cX2_slice 5 = .ok (.getfield 21, 3) := by decide +kernel
theorem dX2_slice_8 : decode cX2_slice 8 = .ok (.getfield 53, 3) := by decide +kernel
theorem dX2_slice_11 : decode cX2_slice 11 = .ok (.aload_n 0, 1) := by decide +kernel
theorem dX2_slice_12 : decode cX2_slice 12 = .ok (.getfield 21, 3) := by decide +kernel
theorem dX2_slice_15 : decode cX2_slice 15 = .ok (.getfield 56, 3) := by decide +kernel
theorem dX2_slice_18 : decode cX2_slice 18 = .ok (.aload_n 0, 1) := by decide +kernel
theorem dX2_slice_19 : decode cX2_slice 19 = .ok (.getfield 21, 3) := by decide +kernel
theorem dX2_slice_22 : decode cX2_slice 22 = .ok (.getfield 59, 3) := by decide +kernel
theorem dX2_slice_25 : decode cX2_slice 25 = .ok (.aload_n 0, 1) := by decide +kernel
theorem dX2_slice_26 : decode cX2_slice 26 = .ok (.getfield 21, 3) := by decide +kernel
theorem dX2_slice_29 : decode cX2_slice 29 = .ok (.getfield 62, 3) := by decide +kernel
theorem dX2_slice_32 : decode cX2_slice 32 = .ok (.invokevirtual 45, 3) := by decide +kernel
theorem dX2_slice_35 : decode cX2_slice 35 = .ok (.aload_n 0, 1) := by decide +kernel
theorem dX2_slice_36 : decode cX2_slice 36 = .ok (.iconst 0, 1) := by decide +kernel
theorem dX2_slice_37 : decode cX2_slice 37 = .ok (.aload_n 0, 1) := by decide +kernel
theorem dX2_slice_38 : decode cX2_slice 38 = .ok (.getfield 41, 3) := by decide +kernel
theorem dX2_slice_41 : decode cX2_slice 41 = .ok (.iload_n 1, 1) := by decide +kernel
theorem dX2_slice_42 : decode cX2_slice 42 = .ok (.aload_n 2, 1) := by decide +kernel
theorem dX2_slice_43 : decode cX2_slice 43 = .ok (.invokevirtual 65, 3) := by decide +kernel
theorem dX2_slice_46 : decode cX2_slice 46 = .ok (.return_, 1) := by decide +kernel
set_option maxRecDepth 20000 in
theorem ggX2_strip_X2_splitIntoStrips : GoodIn wsX2_strip wsX2_splitIntoStrips := goodIn_r _ [15, 1, 16, 5, 10, 17, 18, 19, 14, 20, 2, 8, 3, 21, 22, 23, 24, 25, 26, 27, 28, 29, 30, 31, 32, 33, 34, 35, 36, 37, 38, 39, 40, 41, 42, 43, 44, 45, 46, 81, 82, 83, 84, 85, 86, 87, 88, 93, 94, 95, 96, 89, 90, 91, 92] (by decide +kernel) (by decide +kernel)
set_option maxRecDepth 20000 in
theorem gX2_strip_X2_splitIntoStrips : GoodIn wsX2_strip (wsV RX2 69 RX2 yX2_splitIntoStrips wsX2_splitIntoStrips) := goodIn_app (goodIn_of _ (by decide +kernel)) ggX2_strip_X2_splitIntoStrips
set_option maxRecDepth 20000 in
theorem ggX2_strip_X4_apportion : GoodIn wsX2_strip wsX4_apportion := goodIn_r _ [50, 31, 46, 51, 52, 53, 54, 55, 29, 56, 93, 94, 95, 96] (by decide +kernel) (by decide +kernel)
set_option maxRecDepth 20000 in
theorem gX2_strip_X4_apportion : GoodIn wsX2_strip (wsV RX2 72 RX4 yX4_apportion wsX4_apportion) := goodIn_app (goodIn_of _ (by decide +kernel)) ggX2_strip_X4_apportion
set_option maxRecDepth 20000 in
theorem ggX2_strip_X0_set : GoodIn wsX2_strip wsX0_set := goodIn_r _ [61, 62, 63, 64, 65, 89, 90, 91, 92] (by decide +kernel) (by decide +kernel)
set_option maxRecDepth 20000 in
theorem gX2_strip_X0_set : GoodIn wsX2_strip (wsV RX2 45 RX0 yX0_set wsX0_set) := goodIn_app (goodIn_of _ (by decide +kernel)) ggX2_strip_X0_set
set_option maxRecDepth 20000 in
theorem ggX2_strip_X2_fillBand : GoodIn wsX2_strip wsX2_fillBand := goodIn_r _ [69, 70, 25, 6, 8, 3, 9, 71, 7, 4, 26, 27, 28, 29, 30, 31, 42, 43, 44, 45, 46, 47, 48, 49, 50, 51, 52, 53, 54, 55, 56, 72, 73, 74, 75, 76, 77, 78, 79, 80, 81, 82, 83, 84, 85, 86, 87, 88, 89, 90, 91, 92, 93, 94, 95, 96, 97, 98, 99, 100] (by decide +kernel) (by decide +kernel)
set_option maxRecDepth 20000 in
theorem gX2_strip_X2_fillBand : GoodIn wsX2_strip (wsV RX2 65 RX2 yX2_fillBand wsX2_fillBand) := goodIn_app (goodIn_of _ (by decide +kernel)) ggX2_strip_X2_fillBand
theorem dX2_strip_0 : decode cX2_strip 0 = .ok (.aload_n 0, 1) := by decide +kernel
theorem dX2_strip_1 : decode cX2_strip 1 = .ok (.invokevirtual 69, 3) := by decide +kernel
theorem dX2_strip_4 : decode cX2_strip 4 = .ok (.aload_n 0, 1) := by decide +kernel
theorem dX2_strip_5 : decode cX2_strip 5 = .ok (.getfield 35, 3) := by decide +kernel
theorem dX2_strip_8 : decode cX2_strip 8 = .ok (.aload_n 0, 1) := by decide +kernel
theorem dX2_strip_9 : decode cX2_strip 9 = .ok (.getfield 21, 3) := by decide +kernel
theorem dX2_strip_12 : decode cX2_strip 12 = .ok (.getfield 62, 3) := by decide +kernel
theorem dX2_strip_15 : decode cX2_strip 15 = .ok (.invokevirtual 72, 3) := by decide +kernel
theorem dX2_strip_18 : decode cX2_strip 18 = .ok (.iconst 0, 1) := by decide +kernel
theorem dX2_strip_19 : decode cX2_strip 19 = .ok (.istore_n 2, 1) := by decide +kernel
theorem dX2_strip_20 : decode cX2_strip 20 = .ok (.aload_n 0, 1) := by decide +kernel
theorem dX2_strip_21 : decode cX2_strip 21 = .ok (.getfield 21, 3) := by decide +kernel
theorem dX2_strip_24 : decode cX2_strip 24 = .ok (.getfield 56, 3) := by decide +kernel
theorem dX2_strip_27 : decode cX2_strip 27 = .ok (.istore_n 3, 1) := by decide +kernel
theorem dX2_strip_28 : decode cX2_strip 28 = .ok (.iconst 0, 1) := by decide +kernel
theorem dX2_strip_29 : decode cX2_strip 29 = .ok (.istore 4, 2) := by decide +kernel
theorem dX2_strip_31 : decode cX2_strip 31 = .ok (.iload 4, 2) := by decide +kernel
theorem dX2_strip_33 : decode cX2_strip 33 = .ok (.aload_n 0, 1) := by decide +kernel
theorem dX2_strip_34 : decode cX2_strip 34 = .ok (.getfield 35, 3) := by decide +kernel
theorem dX2_strip_37 : decode cX2_strip 37 = .ok (.getfield 76, 3) := by decide +kernel
theorem dX2_strip_40 : decode cX2_strip 40 = .ok (.if_icmp .ge 73, 3) := by decide +kernel
theorem dX2_strip_43 : decode cX2_strip 43 = .ok (.aload_n 0, 1) := by decide +kernel
theorem dX2_strip_44 : decode cX2_strip 44 = .ok (.getfield 25, 3) := by decide +kernel
theorem dX2_strip_47 : decode cX2_strip 47 = .ok (.aload_n 0, 1) := by decide +kernel
theorem dX2_strip_48 : decode cX2_strip 48 = .ok (.getfield 21, 3) := by decide +kernel
theorem dX2_strip_51 : decode cX2_strip 51 = .ok (.getfield 53, 3) := by decide +kernel
theorem dX2_strip_54 : decode cX2_strip 54 = .ok (.iload_n 3, 1) := by decide +kernel
theorem dX2_strip_55 : decode cX2_strip 55 = .ok (.aload_n 0, 1) := by decide +kernel
theorem dX2_strip_56 : decode cX2_strip 56 = .ok (.getfield 21, 3) := by decide +kernel
theorem dX2_strip_59 : decode cX2_strip 59 = .ok (.getfield 59, 3) := by decide +kernel
theorem dX2_strip_62 : decode cX2_strip 62 = .ok (.aload_n 0, 1) := by decide +kernel
theorem dX2_strip_63 : decode cX2_strip 63 = .ok (.getfield 35, 3) := by decide +kernel
theorem dX2_strip_66 : decode cX2_strip 66 = .ok (.getfield 79, 3) := by decide +kernel
theorem dX2_strip_69 : decode cX2_strip 69 = .ok (.iload 4, 2) := by decide +kernel
theorem dX2_strip_71 : decode cX2_strip 71 = .ok (.iaload, 1) := by decide +kernel
theorem dX2_strip_72 : decode cX2_strip 72 = .ok (.invokevirtual 45, 3) := by decide +kernel
theorem dX2_strip_75 : decode cX2_strip 75 = .ok (.aload_n 0, 1) := by decide +kernel
theorem dX2_strip_76 : decode cX2_strip 76 = .ok (.iload_n 2, 1) := by decide +kernel
theorem dX2_strip_77 : decode cX2_strip 77 = .ok (.aload_n 0, 1) := by decide +kernel
theorem dX2_strip_78 : decode cX2_strip 78 = .ok (.getfield 38, 3) := by decide +kernel
theorem dX2_strip_81 : decode cX2_strip 81 = .ok (.iload 4, 2) := by decide +kernel
theorem dX2_strip_83 : decode cX2_strip 83 = .ok (.iaload, 1) := by decide +kernel
theorem dX2_strip_84 : decode cX2_strip 84 = .ok (.iconst 1, 1) := by decide +kernel
theorem dX2_strip_85 : decode cX2_strip 85 = .ok (.aload_n 1, 1) := by decide +kernel
theorem dX2_strip_86 : decode cX2_strip 86 = .ok (.invokevirtual 65, 3) := by decide +kernel
theorem dX2_strip_89 : decode cX2_strip 89 = .ok (.iload_n 3, 1) := by decide +kernel
theorem dX2_strip_90 : decode cX2_strip 90 = .ok (.aload_n 0, 1) := by decide +kernel
theorem dX2_strip_91 : decode cX2_strip 91 = .ok (.getfield 25, 3) := by decide +kernel
theorem dX2_strip_94 : decode cX2_strip 94 = .ok (.getfield 62, 3) := by decide +kernel
theorem dX2_strip_97 : decode cX2_strip 97 = .ok (.iadd, 1) := by decide +kernel
theorem dX2_strip_98 : decode cX2_strip 98 = .ok (.istore_n 3, 1) := by decide +kernel
theorem dX2_strip_99 : decode cX2_strip 99 = .ok (.aload_n 0, 1) := by decide +kernel
theorem dX2_strip_100 : decode cX2_strip 100 = .ok (.getfield 38, 3) := by decide +kernel
theorem dX2_strip_103 : decode cX2_strip 103 = .ok (.iload 4, 2) := by decide +kernel
theorem dX2_strip_105 : decode cX2_strip 105 = .ok (.iaload, 1) := by decide +kernel
theorem dX2_strip_106 : decode cX2_strip 106 = .ok (.istore_n 2, 1) := by decide +kernel
theorem dX2_strip_107 : decode cX2_strip 107 = .ok (.iinc 4 1, 3) := by decide +kernel
theorem dX2_strip_110 : decode cX2_strip 110 = .ok (.goto (-79), 3) := by decide +kernel
theorem dX2_strip_113 : decode cX2_strip 113 = .ok (.return_, 1) := by decide +kernel
set_option maxRecDepth 20000 in
theorem ggX2_splitIntoStrips_X2_pixelsPerSize : GoodIn wsX2_splitIntoStrips wsX2_pixelsPerSize := goodIn_r _ [9, 2, 10, 11, 12, 13, 14, 15, 8, 16, 17, 39, 40, 41, 42, 43, 44, 45, 46, 51, 52, 53, 54] (by decide +kernel) (by decide +kernel)
set_option maxRecDepth 20000 in
theorem gX2_splitIntoStrips_X2_pixelsPerSize : GoodIn wsX2_splitIntoStrips (wsV RX2 82 RX2 yX2_pixelsPerSize wsX2_pixelsPerSize) := goodIn_app (goodIn_of _ (by decide +kernel)) ggX2_splitIntoStrips_X2_pixelsPerSize
set_option maxRecDepth 20000 in
theorem ggX2_splitIntoStrips_X4_clear : GoodIn wsX2_splitIntoStrips wsX4_clear := goodIn_r _ [22, 23, 47, 48, 49, 50] (by decide +kernel) (by decide +kernel)
set_option maxRecDepth 20000 in
theorem gX2_splitIntoStrips_X4_clear : GoodIn wsX2_splitIntoStrips (wsV RX2 86 RX4 yX4_clear wsX4_clear) := goodIn_app (goodIn_of _ (by decide +kernel)) ggX2_splitIntoStrips_X4_clear
set_option maxRecDepth 20000 in
theorem ggX2_splitIntoStrips_X2_averageRatio : GoodIn wsX2_splitIntoStrips wsX2_averageRatio := goodIn_r _ [27, 10, 11, 17, 13, 14, 15, 8, 16, 28, 29, 30, 31, 32, 33, 39, 40, 41, 42, 43, 44, 45, 46, 51, 52, 53, 54] (by decide +kernel) (by decide +kernel)
set_option maxRecDepth 20000 in
theorem gX2_splitIntoStrips_X2_averageRatio : GoodIn wsX2_splitIntoStrips (wsV RX2 89 RX2 yX2_averageRatio wsX2_averageRatio) := goodIn_app (goodIn_of _ (by decide +kernel)) ggX2_splitIntoStrips_X2_averageRatio
set_option maxRecDepth 20000 in
theorem ggX2_splitIntoStrips_X2_sumOfSizes : GoodIn wsX2_splitIntoStrips wsX2_sumOfSizes := goodIn_r _ [16, 17, 39, 40, 41, 42, 43, 44, 45, 46] (by decide +kernel) (by decide +kernel)
set_option maxRecDepth 20000 in
theorem gX2_splitIntoStrips_X2_sumOfSizes : GoodIn wsX2_splitIntoStrips (wsV RX2 93 RX2 yX2_sumOfSizes wsX2_sumOfSizes) := goodIn_app (goodIn_of _ (by decide +kernel)) ggX2_splitIntoStrips_X2_sumOfSizes
set_option maxRecDepth 20000 in
theorem ggX2_splitIntoStrips_X4_add : GoodIn wsX2_splitIntoStrips wsX4_add := goodIn_r _ [37, 23, 38, 47, 48, 49, 50] (by decide +kernel) (by decide +kernel)
set_option maxRecDepth 20000 in
theorem gX2_splitIntoStrips_X4_add : GoodIn wsX2_splitIntoStrips (wsV RX2 97 RX4 yX4_add wsX4_add) := goodIn_app (goodIn_of _ (by decide +kernel)) ggX2_splitIntoStrips_X4_add
theorem dX2_splitIntoStrips_0 : decode cX2_splitIntoStrips 0 = .ok (.aload_n 0, 1) := by decide +kernel
theorem dX2_splitIntoStrips_1 : decode cX2_splitIntoStrips 1 = .ok (.iconst 0, 1) := by decide +kernel
theorem dX2_splitIntoStrips_2 : decode cX2_splitIntoStrips 2 = .ok (.invokevirtual 82, 3) := by decide +kernel
theorem dX2_splitIntoStrips_5 : decode cX2_splitIntoStrips 5 = .ok (.fstore_n 1, 1) := by decide +kernel
theorem dX2_splitIntoStrips_6 : decode cX2_splitIntoStrips 6 = .ok (.aload_n 0, 1) := by decide +kernel
theorem dX2_splitIntoStrips_7 : decode cX2_splitIntoStrips 7 = .ok (.getfield 35, 3) := by decide +kernel
theorem dX2_splitIntoStrips_10 : decode cX2_splitIntoStrips 10 = .ok (.invokevirtual 86, 3) := by decide +kernel
theorem dX2_splitIntoStrips_13 : decode cX2_splitIntoStrips 13 = .ok (.iconst 0, 1) := by decide +kernel
theorem dX2_splitIntoStrips_14 : decode cX2_splitIntoStrips 14 = .ok (.istore_n 2, 1) := by decide +kernel
theorem dX2_splitIntoStrips_15 : decode cX2_splitIntoStrips 15 = .ok (.iconst 1, 1) := by decide +kernel
theorem dX2_splitIntoStrips_16 : decode cX2_splitIntoStrips 16 = .ok (.istore_n 3, 1) := by decide +kernel
theorem dX2_splitIntoStrips_17 : decode cX2_splitIntoStrips 17 = .ok (.iload_n 3, 1) := by decide +kernel
theorem dX2_splitIntoStrips_18 : decode cX2_splitIntoStrips 18 = .ok (.aload_n 0, 1) := by decide +kernel
theorem dX2_splitIntoStrips_19 : decode cX2_splitIntoStrips 19 = .ok (.getfield 41, 3) := by decide +kernel
theorem dX2_splitIntoStrips_22 : decode cX2_splitIntoStrips 22 = .ok (.if_icmp .gt 89, 3) := by decide +kernel
theorem dX2_splitIntoStrips_25 : decode cX2_splitIntoStrips 25 = .ok (.iload_n 3, 1) := by decide +kernel
theorem dX2_splitIntoStrips_26 : decode cX2_splitIntoStrips 26 = .ok (.aload_n 0, 1) := by decide +kernel
theorem dX2_splitIntoStrips_27 : decode cX2_splitIntoStrips 27 = .ok (.getfield 41, 3) := by decide +kernel
theorem dX2_splitIntoStrips_30 : decode cX2_splitIntoStrips 30 = .ok (.if_icmp .eq 23, 3) := by decide +kernel
theorem dX2_splitIntoStrips_33 : decode cX2_splitIntoStrips 33 = .ok (.aload_n 0, 1) := by decide +kernel
theorem dX2_splitIntoStrips_34 : decode cX2_splitIntoStrips 34 = .ok (.iload_n 2, 1) := by decide +kernel
theorem dX2_splitIntoStrips_35 : decode cX2_splitIntoStrips 35 = .ok (.iload_n 3, 1) := by decide +kernel
theorem dX2_splitIntoStrips_36 : decode cX2_splitIntoStrips 36 = .ok (.iconst 1, 1) := by decide +kernel
theorem dX2_splitIntoStrips_37 : decode cX2_splitIntoStrips 37 = .ok (.iadd, 1) := by decide +kernel
theorem dX2_splitIntoStrips_38 : decode cX2_splitIntoStrips 38 = .ok (.fload_n 1, 1) := by decide +kernel
theorem dX2_splitIntoStrips_39 : decode cX2_splitIntoStrips 39 = .ok (.invokevirtual 89, 3) := by decide +kernel
theorem dX2_splitIntoStrips_42 : decode cX2_splitIntoStrips 42 = .ok (.aload_n 0, 1) := by decide +kernel
theorem dX2_splitIntoStrips_43 : decode cX2_splitIntoStrips 43 = .ok (.iload_n 2, 1) := by decide +kernel
theorem dX2_splitIntoStrips_44 : decode cX2_splitIntoStrips 44 = .ok (.iload_n 3, 1) := by decide +kernel
theorem dX2_splitIntoStrips_45 : decode cX2_splitIntoStrips 45 = .ok (.fload_n 1, 1) := by decide +kernel
theorem dX2_splitIntoStrips_46 : decode cX2_splitIntoStrips 46 = .ok (.invokevirtual 89, 3) := by decide +kernel
theorem dX2_splitIntoStrips_49 : decode cX2_splitIntoStrips 49 = .ok (.fcmp .l, 1) := by decide +kernel
theorem dX2_splitIntoStrips_50 : decode cX2_splitIntoStrips 50 = .ok (.ifCond .le 7, 3) := by decide +kernel
theorem dX2_splitIntoStrips_53 : decode cX2_splitIntoStrips 53 = .ok (.iconst 1, 1) := by decide +kernel
theorem dX2_splitIntoStrips_54 : decode cX2_splitIntoStrips 54 = .ok (.goto 4, 3) := by decide +kernel
theorem dX2_splitIntoStrips_57 : decode cX2_splitIntoStrips 57 = .ok (.iconst 0, 1) := by decide +kernel
theorem dX2_splitIntoStrips_58 : decode cX2_splitIntoStrips 58 = .ok (.istore 4, 2) := by decide +kernel
theorem dX2_splitIntoStrips_60 : decode cX2_splitIntoStrips 60 = .ok (.iload 4, 2) := by decide +kernel
theorem dX2_splitIntoStrips_62 : decode cX2_splitIntoStrips 62 = .ok (.ifCond .eq 43, 3) := by decide +kernel
theorem dX2_splitIntoStrips_65 : decode cX2_splitIntoStrips 65 = .ok (.aload_n 0, 1) := by decide +kernel
theorem dX2_splitIntoStrips_66 : decode cX2_splitIntoStrips 66 = .ok (.getfield 35, 3) := by decide +kernel
theorem dX2_splitIntoStrips_69 : decode cX2_splitIntoStrips 69 = .ok (.getfield 76, 3) := by decide +kernel
theorem dX2_splitIntoStrips_72 : decode cX2_splitIntoStrips 72 = .ok (.bipush 24, 2) := by decide +kernel
theorem dX2_splitIntoStrips_74 : decode cX2_splitIntoStrips 74 = .ok (.if_icmp .ge 31, 3) := by decide +kernel
theorem dX2_splitIntoStrips_77 : decode cX2_splitIntoStrips 77 = .ok (.aload_n 0, 1) := by decide +kernel
theorem dX2_splitIntoStrips_78 : decode cX2_splitIntoStrips 78 = .ok (.getfield 38, 3) := by decide +kernel
theorem dX2_splitIntoStrips_81 : decode cX2_splitIntoStrips 81 = .ok (.aload_n 0, 1) := by decide +kernel
theorem dX2_splitIntoStrips_82 : decode cX2_splitIntoStrips 82 = .ok (.getfield 35, 3) := by decide +kernel
theorem dX2_splitIntoStrips_85 : decode cX2_splitIntoStrips 85 = .ok (.getfield 76, 3) := by decide +kernel
theorem dX2_splitIntoStrips_88 : decode cX2_splitIntoStrips 88 = .ok (.iload_n 3, 1) := by decide +kernel
theorem dX2_splitIntoStrips_89 : decode cX2_splitIntoStrips 89 = .ok (.iastore, 1) := by decide +kernel
theorem dX2_splitIntoStrips_90 : decode cX2_splitIntoStrips 90 = .ok (.aload_n 0, 1) := by decide +kernel
theorem dX2_splitIntoStrips_91 : decode cX2_splitIntoStrips 91 = .ok (.getfield 35, 3) := by decide +kernel
theorem dX2_splitIntoStrips_94 : decode cX2_splitIntoStrips 94 = .ok (.aload_n 0, 1) := by decide +kernel
theorem dX2_splitIntoStrips_95 : decode cX2_splitIntoStrips 95 = .ok (.iload_n 2, 1) := by decide +kernel
theorem dX2_splitIntoStrips_96 : decode cX2_splitIntoStrips 96 = .ok (.iload_n 3, 1) := by decide +kernel
theorem dX2_splitIntoStrips_97 : decode cX2_splitIntoStrips 97 = .ok (.invokevirtual 93, 3) := by decide +kernel
theorem dX2_splitIntoStrips_100 : decode cX2_splitIntoStrips 100 = .ok (.invokevirtual 97, 3) := by decide +kernel
theorem dX2_splitIntoStrips_103 : decode cX2_splitIntoStrips 103 = .ok (.iload_n 3, 1) := by decide +kernel
theorem dX2_splitIntoStrips_104 : decode cX2_splitIntoStrips 104 = .ok (.istore_n 2, 1) := by decide +kernel
theorem dX2_splitIntoStrips_105 : decode cX2_splitIntoStrips 105 = .ok (.iinc 3 1, 3) := by decide +kernel
theorem dX2_splitIntoStrips_108 : decode cX2_splitIntoStrips 108 = .ok (.goto (-91), 3) := by decide +kernel
theorem dX2_splitIntoStrips_111 : decode cX2_splitIntoStrips 111 = .ok (.return_, 1) := by decide +kernel
set_option maxRecDepth 20000 in
theorem ggX2_averageRatio_X2_sumOfSizes : GoodIn wsX2_averageRatio wsX2_sumOfSizes := goodIn_r _ [8, 3, 15, 16, 17, 18, 19, 20, 21, 22] (by decide +kernel) (by decide +kernel)
set_option maxRecDepth 20000 in
theorem gX2_averageRatio_X2_sumOfSizes : GoodIn wsX2_averageRatio (wsV RX2 93 RX2 yX2_sumOfSizes wsX2_sumOfSizes) := goodIn_app (goodIn_of _ (by decide +kernel)) ggX2_averageRatio_X2_sumOfSizes
set_option maxRecDepth 20000 in
theorem ggX2_averageRatio_X2_thicknessOf : GoodIn wsX2_averageRatio wsX2_thicknessOf := goodIn_r _ [11] (by decide +kernel) (by decide +kernel)
set_option maxRecDepth 20000 in
theorem gX2_averageRatio_X2_thicknessOf : GoodIn wsX2_averageRatio (va_wsS RX2 100 yX2_thicknessOf wsX2_thicknessOf) := goodIn_app (goodIn_of _ (by decide +kernel)) ggX2_averageRatio_X2_thicknessOf
set_option maxRecDepth 20000 in
theorem ggX2_averageRatio_X2_ratio : GoodIn wsX2_averageRatio wsX2_ratio := goodIn_r _ [14] (by decide +kernel) (by decide +kernel)
set_option maxRecDepth 20000 in
theorem gX2_averageRatio_X2_ratio : GoodIn wsX2_averageRatio (va_wsS RX2 104 yX2_ratio wsX2_ratio) := goodIn_app (goodIn_of _ (by decide +kernel)) ggX2_averageRatio_X2_ratio
theorem dX2_averageRatio_0 : decode cX2_averageRatio 0 = .ok (.aload_n 0, 1) := by decide +kernel
theorem dX2_averageRatio_1 : decode cX2_averageRatio 1 = .ok (.iload_n 1, 1) := by decide +kernel
theorem dX2_averageRatio_2 : decode cX2_averageRatio 2 = .ok (.iload_n 2, 1) := by decide +kernel
theorem dX2_averageRatio_3 : decode cX2_averageRatio 3 = .ok (.invokevirtual 93, 3) := by decide +kernel
theorem dX2_averageRatio_6 : decode cX2_averageRatio 6 = .ok (.fload_n 3, 1) := by decide +kernel
theorem dX2_averageRatio_7 : decode cX2_averageRatio 7 = .ok (.aload_n 0, 1) := by decide +kernel
theorem dX2_averageRatio_8 : decode cX2_averageRatio 8 = .ok (.getfield 21, 3) := by decide +kernel
theorem dX2_averageRatio_11 : decode cX2_averageRatio 11 = .ok (.getfield 59, 3) := by decide +kernel
theorem dX2_averageRatio_14 : decode cX2_averageRatio 14 = .ok (.invokestatic 100, 3) := by decide +kernel
theorem dX2_averageRatio_17 : decode cX2_averageRatio 17 = .ok (.fstore 4, 2) := by decide +kernel
theorem dX2_averageRatio_19 : decode cX2_averageRatio 19 = .ok (.fconst 0, 1) := by decide +kernel
theorem dX2_averageRatio_20 : decode cX2_averageRatio 20 = .ok (.fstore 5, 2) := by decide +kernel
theorem dX2_averageRatio_22 : decode cX2_averageRatio 22 = .ok (.iload_n 1, 1) := by decide +kernel
theorem dX2_averageRatio_23 : decode cX2_averageRatio 23 = .ok (.istore 6, 2) := by decide +kernel
theorem dX2_averageRatio_25 : decode cX2_averageRatio 25 = .ok (.iload 6, 2) := by decide +kernel
theorem dX2_averageRatio_27 : decode cX2_averageRatio 27 = .ok (.iload_n 2, 1) := by decide +kernel
theorem dX2_averageRatio_28 : decode cX2_averageRatio 28 = .ok (.if_icmp .ge 27, 3) := by decide +kernel
theorem dX2_averageRatio_31 : decode cX2_averageRatio 31 = .ok (.fload 5, 2) := by decide +kernel
theorem dX2_averageRatio_33 : decode cX2_averageRatio 33 = .ok (.aload_n 0, 1) := by decide +kernel
theorem dX2_averageRatio_34 : decode cX2_averageRatio 34 = .ok (.getfield 15, 3) := by decide +kernel
theorem dX2_averageRatio_37 : decode cX2_averageRatio 37 = .ok (.iload 6, 2) := by decide +kernel
theorem dX2_averageRatio_39 : decode cX2_averageRatio 39 = .ok (.iaload, 1) := by decide +kernel
theorem dX2_averageRatio_40 : decode cX2_averageRatio 40 = .ok (.fload_n 3, 1) := by decide +kernel
theorem dX2_averageRatio_41 : decode cX2_averageRatio 41 = .ok (.fload 4, 2) := by decide +kernel
theorem dX2_averageRatio_43 : decode cX2_averageRatio 43 = .ok (.invokestatic 104, 3) := by decide +kernel
theorem dX2_averageRatio_46 : decode cX2_averageRatio 46 = .ok (.fadd, 1) := by decide +kernel
theorem dX2_averageRatio_47 : decode cX2_averageRatio 47 = .ok (.fstore 5, 2) := by decide +kernel
theorem dX2_averageRatio_49 : decode cX2_averageRatio 49 = .ok (.iinc 6 1, 3) := by decide +kernel
theorem dX2_averageRatio_52 : decode cX2_averageRatio 52 = .ok (.goto (-27), 3) := by decide +kernel
theorem dX2_averageRatio_55 : decode cX2_averageRatio 55 = .ok (.iload_n 2, 1) := by decide +kernel
theorem dX2_averageRatio_56 : decode cX2_averageRatio 56 = .ok (.iload_n 1, 1) := by decide +kernel
theorem dX2_averageRatio_57 : decode cX2_averageRatio 57 = .ok (.if_icmp .le 13, 3) := by decide +kernel
theorem dX2_averageRatio_60 : decode cX2_averageRatio 60 = .ok (.fload 5, 2) := by decide +kernel
theorem dX2_averageRatio_62 : decode cX2_averageRatio 62 = .ok (.iload_n 2, 1) := by decide +kernel
theorem dX2_averageRatio_63 : decode cX2_averageRatio 63 = .ok (.iload_n 1, 1) := by decide +kernel
theorem dX2_averageRatio_64 : decode cX2_averageRatio 64 = .ok (.isub, 1) := by decide +kernel
theorem dX2_averageRatio_65 : decode cX2_averageRatio 65 = .ok (.i2f, 1) := by decide +kernel
theorem dX2_averageRatio_66 : decode cX2_averageRatio 66 = .ok (.fdiv, 1) := by decide +kernel
theorem dX2_averageRatio_67 : decode cX2_averageRatio 67 = .ok (.goto 4, 3) := by decide +kernel
theorem dX2_averageRatio_70 : decode cX2_averageRatio 70 = .ok (.fconst 0, 1) := by decide +kernel
theorem dX2_averageRatio_71 : decode cX2_averageRatio 71 = .ok (.freturn, 1) := by decide +kernel
set_option maxRecDepth 20000 in
theorem ggX2_squarify_X2_sortByFallingSize : GoodIn wsX2_squarify wsX2_sortByFallingSize := goodIn_r _ [9, 1, 10, 11, 102, 103, 104, 105, 106, 107, 108, 109] (by decide +kernel) (by decide +kernel)
set_option maxRecDepth 20000 in
theorem gX2_squarify_X2_sortByFallingSize : GoodIn wsX2_squarify (wsV RX2 108 RX2 yX2_sortByFallingSize wsX2_sortByFallingSize) := goodIn_app (goodIn_of _ (by decide +kernel)) ggX2_squarify_X2_sortByFallingSize
set_option maxRecDepth 20000 in
theorem ggX2_squarify_X0_isEmpty : GoodIn wsX2_squarify wsX0_isEmpty := goodIn_r _ [16, 17, 18, 110, 111, 112, 113] (by decide +kernel) (by decide +kernel)
set_option maxRecDepth 20000 in
theorem gX2_squarify_X0_isEmpty : GoodIn wsX2_squarify (wsV RX2 49 RX0 yX0_isEmpty wsX0_isEmpty) := goodIn_app (goodIn_of _ (by decide +kernel)) ggX2_squarify_X0_isEmpty
set_option maxRecDepth 20000 in
theorem ggX2_squarify_X2_collapse : GoodIn wsX2_squarify wsX2_collapse := goodIn_r _ [22, 1, 10, 2, 23, 24, 25, 26, 27, 28, 29, 30, 31, 32, 33, 102, 103, 104, 105, 106, 107, 108, 109, 110, 111, 112, 113, 114, 115, 116, 117] (by decide +kernel) (by decide +kernel)
set_option maxRecDepth 20000 in
theorem gX2_squarify_X2_collapse : GoodIn wsX2_squarify (wsV RX2 111 RX2 yX2_collapse wsX2_collapse) := goodIn_app (goodIn_of _ (by decide +kernel)) ggX2_squarify_X2_collapse
set_option maxRecDepth 20000 in
theorem ggX2_squarify_X2_endOfRow : GoodIn wsX2_squarify wsX2_endOfRow := goodIn_r _ [37, 2, 4, 3, 38, 39, 40, 41, 1, 42, 43, 44, 8, 45, 46, 47, 48, 49, 11, 50, 51, 52, 53, 54, 55, 56, 57, 58, 59, 102, 103, 104, 105, 106, 107, 108, 109, 110, 111, 112, 113] (by decide +kernel) (by decide +kernel)
set_option maxRecDepth 20000 in
theorem gX2_squarify_X2_endOfRow : GoodIn wsX2_squarify (wsV RX2 115 RX2 yX2_endOfRow wsX2_endOfRow) := goodIn_app (goodIn_of _ (by decide +kernel)) ggX2_squarify_X2_endOfRow
set_option maxRecDepth 20000 in
theorem ggX2_squarify_X2_cutBand : GoodIn wsX2_squarify wsX2_cutBand := goodIn_r _ [63, 2, 4, 64, 23, 24, 3, 65, 66, 67, 8, 68, 1, 46, 47, 48, 49, 11, 69, 70, 71, 15, 72, 73, 74, 17, 18, 102, 103, 104, 105, 106, 107, 108, 109, 110, 111, 112, 113] (by decide +kernel) (by decide +kernel)
set_option maxRecDepth 20000 in
theorem gX2_squarify_X2_cutBand : GoodIn wsX2_squarify (wsV RX2 119 RX2 yX2_cutBand wsX2_cutBand) := goodIn_app (goodIn_of _ (by decide +kernel)) ggX2_squarify_X2_cutBand
set_option maxRecDepth 20000 in
theorem ggX2_squarify_X2_fillBand : GoodIn wsX2_squarify wsX2_fillBand := goodIn_r _ [78, 79, 11, 64, 4, 3, 80, 10, 23, 24, 81, 82, 83, 84, 85, 86, 87, 88, 89, 90, 91, 92, 93, 94, 95, 96, 97, 98, 99, 100, 101, 25, 26, 27, 28, 29, 30, 31, 32, 33, 102, 103, 104, 105, 106, 107, 108, 109, 110, 111, 112, 113, 118, 119, 120, 121, 114, 115, 116, 117] (by decide +kernel) (by decide +kernel)
set_option maxRecDepth 20000 in
theorem gX2_squarify_X2_fillBand : GoodIn wsX2_squarify (wsV RX2 65 RX2 yX2_fillBand wsX2_fillBand) := goodIn_app (goodIn_of _ (by decide +kernel)) ggX2_squarify_X2_fillBand
theorem dX2_squarify_0 : decode cX2_squarify 0 = .ok (.aload_n 0, 1) := by decide +kernel
theorem dX2_squarify_1 : decode cX2_squarify 1 = .ok (.invokevirtual 108, 3) := by decide +kernel
theorem dX2_squarify_4 : decode cX2_squarify 4 = .ok (.iconst 0, 1) := by decide +kernel
theorem dX2_squarify_5 : decode cX2_squarify 5 = .ok (.istore_n 2, 1) := by decide +kernel
theorem dX2_squarify_6 : decode cX2_squarify 6 = .ok (.iconst 0, 1) := by decide +kernel
theorem dX2_squarify_7 : decode cX2_squarify 7 = .ok (.istore_n 3, 1) := by decide +kernel
theorem dX2_squarify_8 : decode cX2_squarify 8 = .ok (.iload_n 3, 1) := by decide +kernel
theorem dX2_squarify_9 : decode cX2_squarify 9 = .ok (.aload_n 0, 1) := by decide +kernel
theorem dX2_squarify_10 : decode cX2_squarify 10 = .ok (.getfield 41, 3) := by decide +kernel
theorem dX2_squarify_13 : decode cX2_squarify 13 = .ok (.if_icmp .ge 95, 3) := by decide +kernel
theorem dX2_squarify_16 : decode cX2_squarify 16 = .ok (.iload_n 2, 1) := by decide +kernel
theorem dX2_squarify_17 : decode cX2_squarify 17 = .ok (.aload_n 0, 1) := by decide +kernel
theorem dX2_squarify_18 : decode cX2_squarify 18 = .ok (.getfield 41, 3) := by decide +kernel
theorem dX2_squarify_21 : decode cX2_squarify 21 = .ok (.if_icmp .ge 87, 3) := by decide +kernel
theorem dX2_squarify_24 : decode cX2_squarify 24 = .ok (.aload_n 0, 1) := by decide +kernel
theorem dX2_squarify_25 : decode cX2_squarify 25 = .ok (.getfield 21, 3) := by decide +kernel
theorem dX2_squarify_28 : decode cX2_squarify 28 = .ok (.invokevirtual 49, 3) := by decide +kernel
theorem dX2_squarify_31 : decode cX2_squarify 31 = .ok (.ifCond .eq 10, 3) := by decide +kernel
theorem dX2_squarify_34 : decode cX2_squarify 34 = .ok (.aload_n 0, 1) := by decide +kernel
theorem dX2_squarify_35 : decode cX2_squarify 35 = .ok (.iload_n 2, 1) := by decide +kernel
theorem dX2_squarify_36 : decode cX2_squarify 36 = .ok (.aload_n 1, 1) := by decide +kernel
theorem dX2_squarify_37 : decode cX2_squarify 37 = .ok (.invokevirtual 111, 3) := by decide +kernel
theorem dX2_squarify_40 : decode cX2_squarify 40 = .ok (.return_, 1) := by decide +kernel
theorem dX2_squarify_41 : decode cX2_squarify 41 = .ok (.aload_n 0, 1) := by decide +kernel
theorem dX2_squarify_42 : decode cX2_squarify 42 = .ok (.iload_n 2, 1) := by decide +kernel
theorem dX2_squarify_43 : decode cX2_squarify 43 = .ok (.invokevirtual 115, 3) := by decide +kernel
theorem dX2_squarify_46 : decode cX2_squarify 46 = .ok (.istore 4, 2) := by decide +kernel
theorem dX2_squarify_48 : decode cX2_squarify 48 = .ok (.aload_n 0, 1) := by decide +kernel
theorem dX2_squarify_49 : decode cX2_squarify 49 = .ok (.getfield 21, 3) := by decide +kernel
theorem dX2_squarify_52 : decode cX2_squarify 52 = .ok (.getfield 62, 3) := by decide +kernel
theorem dX2_squarify_55 : decode cX2_squarify 55 = .ok (.aload_n 0, 1) := by decide +kernel
theorem dX2_squarify_56 : decode cX2_squarify 56 = .ok (.getfield 21, 3) := by decide +kernel
theorem dX2_squarify_59 : decode cX2_squarify 59 = .ok (.getfield 59, 3) := by decide +kernel
theorem dX2_squarify_62 : decode cX2_squarify 62 = .ok (.if_icmp .gt 7, 3) := by decide +kernel
theorem dX2_squarify_65 : decode cX2_squarify 65 = .ok (.iconst 1, 1) := by decide +kernel
theorem dX2_squarify_66 : decode cX2_squarify 66 = .ok (.goto 4, 3) := by decide +kernel
theorem dX2_squarify_69 : decode cX2_squarify 69 = .ok (.iconst 0, 1) := by decide +kernel
theorem dX2_squarify_70 : decode cX2_squarify 70 = .ok (.istore 5, 2) := by decide +kernel
theorem dX2_squarify_72 : decode cX2_squarify 72 = .ok (.aload_n 0, 1) := by decide +kernel
theorem dX2_squarify_73 : decode cX2_squarify 73 = .ok (.iload_n 2, 1) := by decide +kernel
theorem dX2_squarify_74 : decode cX2_squarify 74 = .ok (.iload 4, 2) := by decide +kernel
theorem dX2_squarify_76 : decode cX2_squarify 76 = .ok (.iload 5, 2) := by decide +kernel
theorem dX2_squarify_78 : decode cX2_squarify 78 = .ok (.invokevirtual 119, 3) := by decide +kernel
theorem dX2_squarify_81 : decode cX2_squarify 81 = .ok (.aload_n 0, 1) := by decide +kernel
theorem dX2_squarify_82 : decode cX2_squarify 82 = .ok (.iload_n 2, 1) := by decide +kernel
theorem dX2_squarify_83 : decode cX2_squarify 83 = .ok (.iload 4, 2) := by decide +kernel
theorem dX2_squarify_85 : decode cX2_squarify 85 = .ok (.iload 5, 2) := by decide +kernel
theorem dX2_squarify_87 : decode cX2_squarify 87 = .ok (.ifCond .ne 7, 3) := by decide +kernel
theorem dX2_squarify_90 : decode cX2_squarify 90 = .ok (.iconst 1, 1) := by decide +kernel
theorem dX2_squarify_91 : decode cX2_squarify 91 = .ok (.goto 4, 3) := by decide +kernel
theorem dX2_squarify_94 : decode cX2_squarify 94 = .ok (.iconst 0, 1) := by decide +kernel
theorem dX2_squarify_95 : decode cX2_squarify 95 = .ok (.aload_n 1, 1) := by decide +kernel
theorem dX2_squarify_96 : decode cX2_squarify 96 = .ok (.invokevirtual 65, 3) := by decide +kernel
theorem dX2_squarify_99 : decode cX2_squarify 99 = .ok (.iload 4, 2) := by decide +kernel
theorem dX2_squarify_101 : decode cX2_squarify 101 = .ok (.istore_n 2, 1) := by decide +kernel
theorem dX2_squarify_102 : decode cX2_squarify 102 = .ok (.iinc 3 1, 3) := by decide +kernel
theorem dX2_squarify_105 : decode cX2_squarify 105 = .ok (.goto (-97), 3) := by decide +kernel
theorem dX2_squarify_108 : decode cX2_squarify 108 = .ok (.return_, 1) := by decide +kernel
theorem dX2_sortByFallingSize_0 : decode cX2_sortByFallingSize 0 = .ok (.iconst 1, 1) := by decide +kernel
theorem dX2_sortByFallingSize_1 : decode cX2_sortByFallingSize 1 = .ok (.istore_n 1, 1) := by decide +kernel
theorem dX2_sortByFallingSize_2 : decode cX2_sortByFallingSize 2 = .ok (.iload_n 1, 1) := by decide +kernel
theorem dX2_sortByFallingSize_3 : decode cX2_sortByFallingSize 3 = .ok (.aload_n 0, 1) := by decide +kernel
theorem dX2_sortByFallingSize_4 : decode cX2_sortByFallingSize 4 = .ok (.getfield 41, 3) := by decide +kernel
theorem dX2_sortByFallingSize_7 : decode cX2_sortByFallingSize 7 = .ok (.if_icmp .ge 98, 3) := by decide +kernel
theorem dX2_sortByFallingSize_10 : decode cX2_sortByFallingSize 10 = .ok (.aload_n 0, 1) := by decide +kernel
theorem dX2_sortByFallingSize_11 : decode cX2_sortByFallingSize 11 = .ok (.getfield 9, 3) := by decide +kernel
theorem dX2_sortByFallingSize_14 : decode cX2_sortByFallingSize 14 = .ok (.iload_n 1, 1) := by decide +kernel
theorem dX2_sortByFallingSize_15 : decode cX2_sortByFallingSize 15 = .ok (.iaload, 1) := by decide +kernel
theorem dX2_sortByFallingSize_16 : decode cX2_sortByFallingSize 16 = .ok (.istore_n 2, 1) := by decide +kernel
theorem dX2_sortByFallingSize_17 : decode cX2_sortByFallingSize 17 = .ok (.aload_n 0, 1) := by decide +kernel
theorem dX2_sortByFallingSize_18 : decode cX2_sortByFallingSize 18 = .ok (.getfield 15, 3) := by decide +kernel
theorem dX2_sortByFallingSize_21 : decode cX2_sortByFallingSize 21 = .ok (.iload_n 1, 1) := by decide +kernel
theorem dX2_sortByFallingSize_22 : decode cX2_sortByFallingSize 22 = .ok (.iaload, 1) := by decide +kernel
theorem dX2_sortByFallingSize_23 : decode cX2_sortByFallingSize 23 = .ok (.istore_n 3, 1) := by decide +kernel
theorem dX2_sortByFallingSize_24 : decode cX2_sortByFallingSize 24 = .ok (.iload_n 1, 1) := by decide +kernel
theorem dX2_sortByFallingSize_25 : decode cX2_sortByFallingSize 25 = .ok (.istore 4, 2) := by decide +kernel
theorem dX2_sortByFallingSize_27 : decode cX2_sortByFallingSize 27 = .ok (.iload 4, 2) := by decide +kernel
theorem dX2_sortByFallingSize_29 : decode cX2_sortByFallingSize 29 = .ok (.ifCond .le 54, 3) := by decide +kernel
theorem dX2_sortByFallingSize_32 : decode cX2_sortByFallingSize 32 = .ok (.aload_n 0, 1) := by decide +kernel
theorem dX2_sortByFallingSize_33 : decode cX2_sortByFallingSize 33 = .ok (.getfield 15, 3) := by decide +kernel
theorem dX2_sortByFallingSize_36 : decode cX2_sortByFallingSize 36 = .ok (.iload 4, 2) := by decide +kernel
theorem dX2_sortByFallingSize_38 : decode cX2_sortByFallingSize 38 = .ok (.iconst 1, 1) := by decide +kernel
theorem dX2_sortByFallingSize_39 : decode cX2_sortByFallingSize 39 = .ok (.isub, 1) := by decide +kernel
theorem dX2_sortByFallingSize_40 : decode cX2_sortByFallingSize 40 = .ok (.iaload, 1) := by decide +kernel
theorem dX2_sortByFallingSize_41 : decode cX2_sortByFallingSize 41 = .ok (.iload_n 3, 1) := by decide +kernel
theorem dX2_sortByFallingSize_42 : decode cX2_sortByFallingSize 42 = .ok (.if_icmp .ge 41, 3) := by decide +kernel
theorem dX2_sortByFallingSize_45 : decode cX2_sortByFallingSize 45 = .ok (.aload_n 0, 1) := by decide +kernel
theorem dX2_sortByFallingSize_46 : decode cX2_sortByFallingSize 46 = .ok (.getfield 9, 3) := by decide +kernel
theorem dX2_sortByFallingSize_49 : decode cX2_sortByFallingSize 49 = .ok (.iload 4, 2) := by decide +kernel
theorem dX2_sortByFallingSize_51 : decode cX2_sortByFallingSize 51 = .ok (.aload_n 0, 1) := by decide +kernel
theorem dX2_sortByFallingSize_52 : decode cX2_sortByFallingSize 52 = .ok (.getfield 9, 3) := by decide +kernel
theorem dX2_sortByFallingSize_55 : decode cX2_sortByFallingSize 55 = .ok (.iload 4, 2) := by decide +kernel
theorem dX2_sortByFallingSize_57 : decode cX2_sortByFallingSize 57 = .ok (.iconst 1, 1) := by decide +kernel
theorem dX2_sortByFallingSize_58 : decode cX2_sortByFallingSize 58 = .ok (.isub, 1) := by decide +kernel
theorem dX2_sortByFallingSize_59 : decode cX2_sortByFallingSize 59 = .ok (.iaload, 1) := by decide +kernel
theorem dX2_sortByFallingSize_60 : decode cX2_sortByFallingSize 60 = .ok (.iastore, 1) := by decide +kernel
theorem dX2_sortByFallingSize_61 : decode cX2_sortByFallingSize 61 = .ok (.aload_n 0, 1) := by decide +kernel
theorem dX2_sortByFallingSize_62 : decode cX2_sortByFallingSize 62 = .ok (.getfield 15, 3) := by decide +kernel
theorem dX2_sortByFallingSize_65 : decode cX2_sortByFallingSize 65 = .ok (.iload 4, 2) := by decide +kernel
theorem dX2_sortByFallingSize_67 : decode cX2_sortByFallingSize 67 = .ok (.aload_n 0, 1) := by decide +kernel
theorem dX2_sortByFallingSize_68 : decode cX2_sortByFallingSize 68 = .ok (.getfield 15, 3) := by decide +kernel
theorem dX2_sortByFallingSize_71 : decode cX2_sortByFallingSize 71 = .ok (.iload 4, 2) := by decide +kernel
theorem dX2_sortByFallingSize_73 : decode cX2_sortByFallingSize 73 = .ok (.iconst 1, 1) := by decide +kernel
theorem dX2_sortByFallingSize_74 : decode cX2_sortByFallingSize 74 = .ok (.isub, 1) := by decide +kernel
theorem dX2_sortByFallingSize_75 : decode cX2_sortByFallingSize 75 = .ok (.iaload, 1) := by decide +kernel
theorem dX2_sortByFallingSize_76 : decode cX2_sortByFallingSize 76 = .ok (.iastore, 1) := by decide +kernel
theorem dX2_sortByFallingSize_77 : decode cX2_sortByFallingSize 77 = .ok (.iinc 4 (-1), 3) := by decide +kernel
theorem dX2_sortByFallingSize_80 : decode cX2_sortByFallingSize 80 = .ok (.goto (-53), 3) := by decide +kernel
theorem dX2_sortByFallingSize_83 : decode cX2_sortByFallingSize 83 = .ok (.aload_n 0, 1) := by decide +kernel
theorem dX2_sortByFallingSize_84 : decode cX2_sortByFallingSize 84 = .ok (.getfield 9, 3) := by decide +kernel
theorem dX2_sortByFallingSize_87 : decode cX2_sortByFallingSize 87 = .ok (.iload 4, 2) := by decide +kernel
theorem dX2_sortByFallingSize_89 : decode cX2_sortByFallingSize 89 = .ok (.iload_n 2, 1) := by decide +kernel
theorem dX2_sortByFallingSize_90 : decode cX2_sortByFallingSize 90 = .ok (.iastore, 1) := by decide +kernel
theorem dX2_sortByFallingSize_91 : decode cX2_sortByFallingSize 91 = .ok (.aload_n 0, 1) := by decide +kernel
theorem dX2_sortByFallingSize_92 : decode cX2_sortByFallingSize 92 = .ok (.getfield 15, 3) := by decide +kernel
theorem dX2_sortByFallingSize_95 : decode cX2_sortByFallingSize 95 = .ok (.iload 4, 2) := by decide +kernel
theorem dX2_sortByFallingSize_97 : decode cX2_sortByFallingSize 97 = .ok (.iload_n 3, 1) := by decide +kernel
theorem dX2_sortByFallingSize_98 : decode cX2_sortByFallingSize 98 = .ok (.iastore, 1) := by decide +kernel
theorem dX2_sortByFallingSize_99 : decode cX2_sortByFallingSize 99 = .ok (.iinc 1 1, 3) := by decide +kernel
theorem dX2_sortByFallingSize_102 : decode cX2_sortByFallingSize 102 = .ok (.goto (-100), 3) := by decide +kernel
theorem dX2_sortByFallingSize_105 : decode cX2_sortByFallingSize 105 = .ok (.return_, 1) := by decide +kernel
set_option maxRecDepth 20000 in
theorem ggX2_endOfRow_X2_pixelsPerSize : GoodIn wsX2_endOfRow wsX2_pixelsPerSize := goodIn_r _ [13, 8, 1, 2, 3, 14, 15, 16, 12, 17, 18, 29, 30, 31, 32, 33, 34, 35, 36, 37, 38, 39, 40] (by decide +kernel) (by decide +kernel)
set_option maxRecDepth 20000 in
theorem gX2_endOfRow_X2_pixelsPerSize : GoodIn wsX2_endOfRow (wsV RX2 82 RX2 yX2_pixelsPerSize wsX2_pixelsPerSize) := goodIn_app (goodIn_of _ (by decide +kernel)) ggX2_endOfRow_X2_pixelsPerSize
set_option maxRecDepth 20000 in
theorem ggX2_endOfRow_X2_worstRatio : GoodIn wsX2_endOfRow wsX2_worstRatio := goodIn_r _ [22, 18, 14, 15, 16, 12, 17, 23, 24, 25, 26, 27, 28, 29, 30, 31, 32, 33, 34, 35, 36] (by decide +kernel) (by decide +kernel)
set_option maxRecDepth 20000 in
theorem gX2_endOfRow_X2_worstRatio : GoodIn wsX2_endOfRow (wsV RX2 128 RX2 yX2_worstRatio wsX2_worstRatio) := goodIn_app (goodIn_of _ (by decide +kernel)) ggX2_endOfRow_X2_worstRatio
theorem dX2_endOfRow_0 : decode cX2_endOfRow 0 = .ok (.aload_n 0, 1) := by decide +kernel
theorem dX2_endOfRow_1 : decode cX2_endOfRow 1 = .ok (.iload_n 1, 1) := by decide +kernel
theorem dX2_endOfRow_2 : decode cX2_endOfRow 2 = .ok (.invokevirtual 82, 3) := by decide +kernel
theorem dX2_endOfRow_5 : decode cX2_endOfRow 5 = .ok (.fstore_n 2, 1) := by decide +kernel
theorem dX2_endOfRow_6 : decode cX2_endOfRow 6 = .ok (.aload_n 0, 1) := by decide +kernel
theorem dX2_endOfRow_7 : decode cX2_endOfRow 7 = .ok (.getfield 21, 3) := by decide +kernel
theorem dX2_endOfRow_10 : decode cX2_endOfRow 10 = .ok (.getfield 59, 3) := by decide +kernel
theorem dX2_endOfRow_13 : decode cX2_endOfRow 13 = .ok (.aload_n 0, 1) := by decide +kernel
theorem dX2_endOfRow_14 : decode cX2_endOfRow 14 = .ok (.getfield 21, 3) := by decide +kernel
theorem dX2_endOfRow_17 : decode cX2_endOfRow 17 = .ok (.getfield 62, 3) := by decide +kernel
theorem dX2_endOfRow_20 : decode cX2_endOfRow 20 = .ok (.invokestatic 123, 3) := by decide +kernel
theorem dX2_endOfRow_23 : decode cX2_endOfRow 23 = .ok (.istore_n 3, 1) := by decide +kernel
theorem dX2_endOfRow_24 : decode cX2_endOfRow 24 = .ok (.aload_n 0, 1) := by decide +kernel
theorem dX2_endOfRow_25 : decode cX2_endOfRow 25 = .ok (.iload_n 1, 1) := by decide +kernel
theorem dX2_endOfRow_26 : decode cX2_endOfRow 26 = .ok (.iload_n 1, 1) := by decide +kernel
theorem dX2_endOfRow_27 : decode cX2_endOfRow 27 = .ok (.iconst 1, 1) := by decide +kernel
theorem dX2_endOfRow_28 : decode cX2_endOfRow 28 = .ok (.iadd, 1) := by decide +kernel
theorem dX2_endOfRow_29 : decode cX2_endOfRow 29 = .ok (.fload_n 2, 1) := by decide +kernel
theorem dX2_endOfRow_30 : decode cX2_endOfRow 30 = .ok (.iload_n 3, 1) := by decide +kernel
theorem dX2_endOfRow_31 : decode cX2_endOfRow 31 = .ok (.invokevirtual 128, 3) := by decide +kernel
theorem dX2_endOfRow_34 : decode cX2_endOfRow 34 = .ok (.fstore 4, 2) := by decide +kernel
theorem dX2_endOfRow_36 : decode cX2_endOfRow 36 = .ok (.iload_n 1, 1) := by decide +kernel
theorem dX2_endOfRow_37 : decode cX2_endOfRow 37 = .ok (.iconst 1, 1) := by decide +kernel
theorem dX2_endOfRow_38 : decode cX2_endOfRow 38 = .ok (.iadd, 1) := by decide +kernel
theorem dX2_endOfRow_39 : decode cX2_endOfRow 39 = .ok (.istore 5, 2) := by decide +kernel
theorem dX2_endOfRow_41 : decode cX2_endOfRow 41 = .ok (.iload 5, 2) := by decide +kernel
theorem dX2_endOfRow_43 : decode cX2_endOfRow 43 = .ok (.aload_n 0, 1) := by decide +kernel
theorem dX2_endOfRow_44 : decode cX2_endOfRow 44 = .ok (.getfield 41, 3) := by decide +kernel
theorem dX2_endOfRow_47 : decode cX2_endOfRow 47 = .ok (.if_icmp .ge 37, 3) := by decide +kernel
theorem dX2_endOfRow_50 : decode cX2_endOfRow 50 = .ok (.aload_n 0, 1) := by decide +kernel
theorem dX2_endOfRow_51 : decode cX2_endOfRow 51 = .ok (.iload_n 1, 1) := by decide +kernel
theorem dX2_endOfRow_52 : decode cX2_endOfRow 52 = .ok (.iload 5, 2) := by decide +kernel
theorem dX2_endOfRow_54 : decode cX2_endOfRow 54 = .ok (.iconst 1, 1) := by decide +kernel
theorem dX2_endOfRow_55 : decode cX2_endOfRow 55 = .ok (.iadd, 1) := by decide +kernel
theorem dX2_endOfRow_56 : decode cX2_endOfRow 56 = .ok (.fload_n 2, 1) := by decide +kernel
theorem dX2_endOfRow_57 : decode cX2_endOfRow 57 = .ok (.iload_n 3, 1) := by decide +kernel
theorem dX2_endOfRow_58 : decode cX2_endOfRow 58 = .ok (.invokevirtual 128, 3) := by decide +kernel
theorem dX2_endOfRow_61 : decode cX2_endOfRow 61 = .ok (.fstore 6, 2) := by decide +kernel
theorem dX2_endOfRow_63 : decode cX2_endOfRow 63 = .ok (.fload 6, 2) := by decide +kernel
theorem dX2_endOfRow_65 : decode cX2_endOfRow 65 = .ok (.fload 4, 2) := by decide +kernel
theorem dX2_endOfRow_67 : decode cX2_endOfRow 67 = .ok (.fcmp .l, 1) := by decide +kernel
theorem dX2_endOfRow_68 : decode cX2_endOfRow 68 = .ok (.ifCond .le 6, 3) := by decide +kernel
theorem dX2_endOfRow_71 : decode cX2_endOfRow 71 = .ok (.iload 5, 2) := by decide +kernel
theorem dX2_endOfRow_73 : decode cX2_endOfRow 73 = .ok (.ireturn, 1) := by decide +kernel
theorem dX2_endOfRow_74 : decode cX2_endOfRow 74 = .ok (.fload 6, 2) := by decide +kernel
theorem dX2_endOfRow_76 : decode cX2_endOfRow 76 = .ok (.fstore 4, 2) := by decide +kernel
theorem dX2_endOfRow_78 : decode cX2_endOfRow 78 = .ok (.iinc 5 1, 3) := by decide +kernel
theorem dX2_endOfRow_81 : decode cX2_endOfRow 81 = .ok (.goto (-40), 3) := by decide +kernel
theorem dX2_endOfRow_84 : decode cX2_endOfRow 84 = .ok (.aload_n 0, 1) := by decide +kernel
theorem dX2_endOfRow_85 : decode cX2_endOfRow 85 = .ok (.getfield 41, 3) := by decide +kernel
theorem dX2_endOfRow_88 : decode cX2_endOfRow 88 = .ok (.ireturn, 1) := by decide +kernel
set_option maxRecDepth 20000 in
theorem ggX2_worstRatio_X2_sumOfSizes : GoodIn wsX2_worstRatio wsX2_sumOfSizes := goodIn_r _ [6, 1, 13, 14, 15, 16, 17, 18, 19, 20] (by decide +kernel) (by decide +kernel)
set_option maxRecDepth 20000 in
theorem gX2_worstRatio_X2_sumOfSizes : GoodIn wsX2_worstRatio (wsV RX2 93 RX2 yX2_sumOfSizes wsX2_sumOfSizes) := goodIn_app (goodIn_of _ (by decide +kernel)) ggX2_worstRatio_X2_sumOfSizes
set_option maxRecDepth 20000 in
theorem ggX2_worstRatio_X2_thicknessOf : GoodIn wsX2_worstRatio wsX2_thicknessOf := goodIn_r _ [9] (by decide +kernel) (by decide +kernel)
set_option maxRecDepth 20000 in
theorem gX2_worstRatio_X2_thicknessOf : GoodIn wsX2_worstRatio (va_wsS RX2 100 yX2_thicknessOf wsX2_thicknessOf) := goodIn_app (goodIn_of _ (by decide +kernel)) ggX2_worstRatio_X2_thicknessOf
set_option maxRecDepth 20000 in
theorem ggX2_worstRatio_X2_ratio : GoodIn wsX2_worstRatio wsX2_ratio := goodIn_r _ [12] (by decide +kernel) (by decide +kernel)
set_option maxRecDepth 20000 in
theorem gX2_worstRatio_X2_ratio : GoodIn wsX2_worstRatio (va_wsS RX2 104 yX2_ratio wsX2_ratio) := goodIn_app (goodIn_of _ (by decide +kernel)) ggX2_worstRatio_X2_ratio
theorem dX2_worstRatio_0 : decode cX2_worstRatio 0 = .ok (.aload_n 0, 1) := by decide +kernel
theorem dX2_worstRatio_1 : decode cX2_worstRatio 1 = .ok (.iload_n 1, 1) := by decide +kernel
theorem dX2_worstRatio_2 : decode cX2_worstRatio 2 = .ok (.iload_n 2, 1) := by decide +kernel
theorem dX2_worstRatio_3 : decode cX2_worstRatio 3 = .ok (.invokevirtual 93, 3) := by decide +kernel
theorem dX2_worstRatio_6 : decode cX2_worstRatio 6 = .ok (.fload_n 3, 1) := by decide +kernel
theorem dX2_worstRatio_7 : decode cX2_worstRatio 7 = .ok (.iload 4, 2) := by decide +kernel
theorem dX2_worstRatio_9 : decode cX2_worstRatio 9 = .ok (.invokestatic 100, 3) := by decide +kernel
theorem dX2_worstRatio_12 : decode cX2_worstRatio 12 = .ok (.fstore 5, 2) := by decide +kernel
theorem dX2_worstRatio_14 : decode cX2_worstRatio 14 = .ok (.fconst 0, 1) := by decide +kernel
theorem dX2_worstRatio_15 : decode cX2_worstRatio 15 = .ok (.fstore 6, 2) := by decide +kernel
theorem dX2_worstRatio_17 : decode cX2_worstRatio 17 = .ok (.iload_n 1, 1) := by decide +kernel
theorem dX2_worstRatio_18 : decode cX2_worstRatio 18 = .ok (.istore 7, 2) := by decide +kernel
theorem dX2_worstRatio_20 : decode cX2_worstRatio 20 = .ok (.iload 7, 2) := by decide +kernel
theorem dX2_worstRatio_22 : decode cX2_worstRatio 22 = .ok (.iload_n 2, 1) := by decide +kernel
theorem dX2_worstRatio_23 : decode cX2_worstRatio 23 = .ok (.if_icmp .ge 41, 3) := by decide +kernel
theorem dX2_worstRatio_26 : decode cX2_worstRatio 26 = .ok (.aload_n 0, 1) := by decide +kernel
theorem dX2_worstRatio_27 : decode cX2_worstRatio 27 = .ok (.getfield 15, 3) := by decide +kernel
theorem dX2_worstRatio_30 : decode cX2_worstRatio 30 = .ok (.iload 7, 2) := by decide +kernel
theorem dX2_worstRatio_32 : decode cX2_worstRatio 32 = .ok (.iaload, 1) := by decide +kernel
theorem dX2_worstRatio_33 : decode cX2_worstRatio 33 = .ok (.fload_n 3, 1) := by decide +kernel
theorem dX2_worstRatio_34 : decode cX2_worstRatio 34 = .ok (.fload 5, 2) := by decide +kernel
theorem dX2_worstRatio_36 : decode cX2_worstRatio 36 = .ok (.invokestatic 104, 3) := by decide +kernel
theorem dX2_worstRatio_39 : decode cX2_worstRatio 39 = .ok (.fstore 8, 2) := by decide +kernel
theorem dX2_worstRatio_41 : decode cX2_worstRatio 41 = .ok (.fload 8, 2) := by decide +kernel
theorem dX2_worstRatio_43 : decode cX2_worstRatio 43 = .ok (.fload 6, 2) := by decide +kernel
theorem dX2_worstRatio_45 : decode cX2_worstRatio 45 = .ok (.fcmp .l, 1) := by decide +kernel
theorem dX2_worstRatio_46 : decode cX2_worstRatio 46 = .ok (.ifCond .lt 8, 3) := by decide +kernel
theorem dX2_worstRatio_49 : decode cX2_worstRatio 49 = .ok (.fload 8, 2) := by decide +kernel
theorem dX2_worstRatio_51 : decode cX2_worstRatio 51 = .ok (.goto 5, 3) := by decide +kernel
theorem dX2_worstRatio_54 : decode cX2_worstRatio 54 = .ok (.fload 6, 2) := by decide +kernel
theorem dX2_worstRatio_56 : decode cX2_worstRatio 56 = .ok (.fstore 6, 2) := by decide +kernel
theorem dX2_worstRatio_58 : decode cX2_worstRatio 58 = .ok (.iinc 7 1, 3) := by decide +kernel
theorem dX2_worstRatio_61 : decode cX2_worstRatio 61 = .ok (.goto (-41), 3) := by decide +kernel
theorem dX2_worstRatio_64 : decode cX2_worstRatio 64 = .ok (.fload 6, 2) := by decide +kernel
theorem dX2_worstRatio_66 : decode cX2_worstRatio 66 = .ok (.freturn, 1) := by decide +kernel
set_option maxRecDepth 20000 in
theorem ggX2_cutBand_X2_rowThickness : GoodIn wsX2_cutBand wsX2_rowThickness := goodIn_r _ [11, 12, 13, 14, 15, 10, 16, 17, 27, 28, 29, 30, 31, 32, 33, 34] (by decide +kernel) (by decide +kernel)
set_option maxRecDepth 20000 in
theorem gX2_cutBand_X2_rowThickness : GoodIn wsX2_cutBand (wsV RX2 132 RX2 yX2_rowThickness wsX2_rowThickness) := goodIn_app (goodIn_of _ (by decide +kernel)) ggX2_cutBand_X2_rowThickness
set_option maxRecDepth 20000 in
theorem ggX2_cutBand_X0_set : GoodIn wsX2_cutBand wsX0_set := goodIn_r _ [22, 23, 24, 25, 26, 35, 36, 37, 38] (by decide +kernel) (by decide +kernel)
set_option maxRecDepth 20000 in
theorem gX2_cutBand_X0_set : GoodIn wsX2_cutBand (wsV RX2 45 RX0 yX0_set wsX0_set) := goodIn_app (goodIn_of _ (by decide +kernel)) ggX2_cutBand_X0_set
theorem dX2_cutBand_0 : decode cX2_cutBand 0 = .ok (.iload_n 3, 1) := by decide +kernel
theorem dX2_cutBand_1 : decode cX2_cutBand 1 = .ok (.ifCond .eq 79, 3) := by decide +kernel
theorem dX2_cutBand_4 : decode cX2_cutBand 4 = .ok (.aload_n 0, 1) := by decide +kernel
theorem dX2_cutBand_5 : decode cX2_cutBand 5 = .ok (.iload_n 1, 1) := by decide +kernel
theorem dX2_cutBand_6 : decode cX2_cutBand 6 = .ok (.iload_n 2, 1) := by decide +kernel
theorem dX2_cutBand_7 : decode cX2_cutBand 7 = .ok (.aload_n 0, 1) := by decide +kernel
theorem dX2_cutBand_8 : decode cX2_cutBand 8 = .ok (.getfield 21, 3) := by decide +kernel
theorem dX2_cutBand_11 : decode cX2_cutBand 11 = .ok (.getfield 59, 3) := by decide +kernel
theorem dX2_cutBand_14 : decode cX2_cutBand 14 = .ok (.invokevirtual 132, 3) := by decide +kernel
theorem dX2_cutBand_17 : decode cX2_cutBand 17 = .ok (.istore 4, 2) := by decide +kernel
theorem dX2_cutBand_19 : decode cX2_cutBand 19 = .ok (.aload_n 0, 1) := by decide +kernel
theorem dX2_cutBand_20 : decode cX2_cutBand 20 = .ok (.getfield 25, 3) := by decide +kernel
theorem dX2_cutBand_23 : decode cX2_cutBand 23 = .ok (.aload_n 0, 1) := by decide +kernel
theorem dX2_cutBand_24 : decode cX2_cutBand 24 = .ok (.getfield 21, 3) := by decide +kernel
theorem dX2_cutBand_27 : decode cX2_cutBand 27 = .ok (.getfield 53, 3) := by decide +kernel
theorem dX2_cutBand_30 : decode cX2_cutBand 30 = .ok (.aload_n 0, 1) := by decide +kernel
theorem dX2_cutBand_31 : decode cX2_cutBand 31 = .ok (.getfield 21, 3) := by decide +kernel
theorem dX2_cutBand_34 : decode cX2_cutBand 34 = .ok (.getfield 56, 3) := by decide +kernel
theorem dX2_cutBand_37 : decode cX2_cutBand 37 = .ok (.iload 4, 2) := by decide +kernel
theorem dX2_cutBand_39 : decode cX2_cutBand 39 = .ok (.aload_n 0, 1) := by decide +kernel
theorem dX2_cutBand_40 : decode cX2_cutBand 40 = .ok (.getfield 21, 3) := by decide +kernel
theorem dX2_cutBand_43 : decode cX2_cutBand 43 = .ok (.getfield 62, 3) := by decide +kernel
theorem dX2_cutBand_46 : decode cX2_cutBand 46 = .ok (.invokevirtual 45, 3) := by decide +kernel
theorem dX2_cutBand_49 : decode cX2_cutBand 49 = .ok (.aload_n 0, 1) := by decide +kernel
theorem dX2_cutBand_50 : decode cX2_cutBand 50 = .ok (.getfield 21, 3) := by decide +kernel
theorem dX2_cutBand_53 : decode cX2_cutBand 53 = .ok (.dup, 1) := by decide +kernel
theorem dX2_cutBand_54 : decode cX2_cutBand 54 = .ok (.getfield 53, 3) := by decide +kernel
theorem dX2_cutBand_57 : decode cX2_cutBand 57 = .ok (.iload 4, 2) := by decide +kernel
theorem dX2_cutBand_59 : decode cX2_cutBand 59 = .ok (.iadd, 1) := by decide +kernel
theorem dX2_cutBand_60 : decode cX2_cutBand 60 = .ok (.putfield 53, 3) := by decide +kernel
theorem dX2_cutBand_63 : decode cX2_cutBand 63 = .ok (.aload_n 0, 1) := by decide +kernel
theorem dX2_cutBand_64 : decode cX2_cutBand 64 = .ok (.getfield 21, 3) := by decide +kernel
theorem dX2_cutBand_67 : decode cX2_cutBand 67 = .ok (.dup, 1) := by decide +kernel
theorem dX2_cutBand_68 : decode cX2_cutBand 68 = .ok (.getfield 59, 3) := by decide +kernel
theorem dX2_cutBand_71 : decode cX2_cutBand 71 = .ok (.iload 4, 2) := by decide +kernel
theorem dX2_cutBand_73 : decode cX2_cutBand 73 = .ok (.isub, 1) := by decide +kernel
theorem dX2_cutBand_74 : decode cX2_cutBand 74 = .ok (.putfield 59, 3) := by decide +kernel
theorem dX2_cutBand_77 : decode cX2_cutBand 77 = .ok (.goto 76, 3) := by decide +kernel
theorem dX2_cutBand_80 : decode cX2_cutBand 80 = .ok (.aload_n 0, 1) := by decide +kernel
theorem dX2_cutBand_81 : decode cX2_cutBand 81 = .ok (.iload_n 1, 1) := by decide +kernel
theorem dX2_cutBand_82 : decode cX2_cutBand 82 = .ok (.iload_n 2, 1) := by decide +kernel
theorem dX2_cutBand_83 : decode cX2_cutBand 83 = .ok (.aload_n 0, 1) := by decide +kernel
theorem dX2_cutBand_84 : decode cX2_cutBand 84 = .ok (.getfield 21, 3) := by decide +kernel
theorem dX2_cutBand_87 : decode cX2_cutBand 87 = .ok (.getfield 62, 3) := by decide +kernel
theorem dX2_cutBand_90 : decode cX2_cutBand 90 = .ok (.invokevirtual 132, 3) := by decide +kernel
theorem dX2_cutBand_93 : decode cX2_cutBand 93 = .ok (.istore 4, 2) := by decide +kernel
theorem dX2_cutBand_95 : decode cX2_cutBand 95 = .ok (.aload_n 0, 1) := by decide +kernel
theorem dX2_cutBand_96 : decode cX2_cutBand 96 = .ok (.getfield 25, 3) := by decide +kernel
theorem dX2_cutBand_99 : decode cX2_cutBand 99 = .ok (.aload_n 0, 1) := by decide +kernel
theorem dX2_cutBand_100 : decode cX2_cutBand 100 = .ok (.getfield 21, 3) := by decide +kernel
theorem dX2_cutBand_103 : decode cX2_cutBand 103 = .ok (.getfield 53, 3) := by decide +kernel
theorem dX2_cutBand_106 : decode cX2_cutBand 106 = .ok (.aload_n 0, 1) := by decide +kernel
theorem dX2_cutBand_107 : decode cX2_cutBand 107 = .ok (.getfield 21, 3) := by decide +kernel
theorem dX2_cutBand_110 : decode cX2_cutBand 110 = .ok (.getfield 56, 3) := by decide +kernel
theorem dX2_cutBand_113 : decode cX2_cutBand 113 = .ok (.aload_n 0, 1) := by decide +kernel
theorem dX2_cutBand_114 : decode cX2_cutBand 114 = .ok (.getfield 21, 3) := by decide +kernel
theorem dX2_cutBand_117 : decode cX2_cutBand 117 = .ok (.getfield 59, 3) := by decide +kernel
theorem dX2_cutBand_120 : decode cX2_cutBand 120 = .ok (.iload 4, 2) := by decide +kernel
theorem dX2_cutBand_122 : decode cX2_cutBand 122 = .ok (.invokevirtual 45, 3) := by decide +kernel
theorem dX2_cutBand_125 : decode cX2_cutBand 125 = .ok (.aload_n 0, 1) := by decide +kernel
theorem dX2_cutBand_126 : decode cX2_cutBand 126 = .ok (.getfield 21, 3) := by decide +kernel
theorem dX2_cutBand_129 : decode cX2_cutBand 129 = .ok (.dup, 1) := by decide +kernel
theorem dX2_cutBand_130 : decode cX2_cutBand 130 = .ok (.getfield 56, 3) := by decide +kernel
theorem dX2_cutBand_133 : decode cX2_cutBand 133 = .ok (.iload 4, 2) := by decide +kernel
theorem dX2_cutBand_135 : decode cX2_cutBand 135 = .ok (.iadd, 1) := by decide +kernel
theorem dX2_cutBand_136 : decode cX2_cutBand 136 = .ok (.putfield 56, 3) := by decide +kernel
theorem dX2_cutBand_139 : decode cX2_cutBand 139 = .ok (.aload_n 0, 1) := by decide +kernel
theorem dX2_cutBand_140 : decode cX2_cutBand 140 = .ok (.getfield 21, 3) := by decide +kernel
theorem dX2_cutBand_143 : decode cX2_cutBand 143 = .ok (.dup, 1) := by decide +kernel
theorem dX2_cutBand_144 : decode cX2_cutBand 144 = .ok (.getfield 62, 3) := by decide +kernel
theorem dX2_cutBand_147 : decode cX2_cutBand 147 = .ok (.iload 4, 2) := by decide +kernel
theorem dX2_cutBand_149 : decode cX2_cutBand 149 = .ok (.isub, 1) := by decide +kernel
theorem dX2_cutBand_150 : decode cX2_cutBand 150 = .ok (.putfield 62, 3) := by decide +kernel
theorem dX2_cutBand_153 : decode cX2_cutBand 153 = .ok (.return_, 1) := by decide +kernel
set_option maxRecDepth 20000 in
theorem ggX2_rowThickness_X2_sumOfSizes : GoodIn wsX2_rowThickness wsX2_sumOfSizes := goodIn_r _ [6, 7, 8, 9, 10, 11, 12, 13, 14, 15] (by decide +kernel) (by decide +kernel)
set_option maxRecDepth 20000 in
theorem gX2_rowThickness_X2_sumOfSizes : GoodIn wsX2_rowThickness (wsV RX2 93 RX2 yX2_sumOfSizes wsX2_sumOfSizes) := goodIn_app (goodIn_of _ (by decide +kernel)) ggX2_rowThickness_X2_sumOfSizes
theorem dX2_rowThickness_0 : decode cX2_rowThickness 0 = .ok (.aload_n 0, 1) := by decide +kernel
theorem dX2_rowThickness_1 : decode cX2_rowThickness 1 = .ok (.iload_n 1, 1) := by decide +kernel
theorem dX2_rowThickness_2 : decode cX2_rowThickness 2 = .ok (.aload_n 0, 1) := by decide +kernel
theorem dX2_rowThickness_3 : decode cX2_rowThickness 3 = .ok (.getfield 41, 3) := by decide +kernel
theorem dX2_rowThickness_6 : decode cX2_rowThickness 6 = .ok (.invokevirtual 93, 3) := by decide +kernel
theorem dX2_rowThickness_9 : decode cX2_rowThickness 9 = .ok (.istore 4, 2) := by decide +kernel
theorem dX2_rowThickness_11 : decode cX2_rowThickness 11 = .ok (.iload_n 2, 1) := by decide +kernel
theorem dX2_rowThickness_12 : decode cX2_rowThickness 12 = .ok (.aload_n 0, 1) := by decide +kernel
theorem dX2_rowThickness_13 : decode cX2_rowThickness 13 = .ok (.getfield 41, 3) := by decide +kernel
theorem dX2_rowThickness_16 : decode cX2_rowThickness 16 = .ok (.if_icmp .ge 8, 3) := by decide +kernel
theorem dX2_rowThickness_19 : decode cX2_rowThickness 19 = .ok (.iload 4, 2) := by decide +kernel
theorem dX2_rowThickness_21 : decode cX2_rowThickness 21 = .ok (.ifCond .gt 5, 3) := by decide +kernel
theorem dX2_rowThickness_24 : decode cX2_rowThickness 24 = .ok (.iload_n 3, 1) := by decide +kernel
theorem dX2_rowThickness_25 : decode cX2_rowThickness 25 = .ok (.ireturn, 1) := by decide +kernel
theorem dX2_rowThickness_26 : decode cX2_rowThickness 26 = .ok (.iconst 2, 1) := by decide +kernel
theorem dX2_rowThickness_27 : decode cX2_rowThickness 27 = .ok (.aload_n 0, 1) := by decide +kernel
theorem dX2_rowThickness_28 : decode cX2_rowThickness 28 = .ok (.iload_n 1, 1) := by decide +kernel
theorem dX2_rowThickness_29 : decode cX2_rowThickness 29 = .ok (.iload_n 2, 1) := by decide +kernel
theorem dX2_rowThickness_30 : decode cX2_rowThickness 30 = .ok (.invokevirtual 93, 3) := by decide +kernel
theorem dX2_rowThickness_33 : decode cX2_rowThickness 33 = .ok (.imul, 1) := by decide +kernel
theorem dX2_rowThickness_34 : decode cX2_rowThickness 34 = .ok (.iload_n 3, 1) := by decide +kernel
theorem dX2_rowThickness_35 : decode cX2_rowThickness 35 = .ok (.imul, 1) := by decide +kernel
theorem dX2_rowThickness_36 : decode cX2_rowThickness 36 = .ok (.iload 4, 2) := by decide +kernel
theorem dX2_rowThickness_38 : decode cX2_rowThickness 38 = .ok (.iadd, 1) := by decide +kernel
theorem dX2_rowThickness_39 : decode cX2_rowThickness 39 = .ok (.iconst 2, 1) := by decide +kernel
theorem dX2_rowThickness_40 : decode cX2_rowThickness 40 = .ok (.iload 4, 2) := by decide +kernel
theorem dX2_rowThickness_42 : decode cX2_rowThickness 42 = .ok (.imul, 1) := by decide +kernel
theorem dX2_rowThickness_43 : decode cX2_rowThickness 43 = .ok (.idiv, 1) := by decide +kernel
theorem dX2_rowThickness_44 : decode cX2_rowThickness 44 = .ok (.ireturn, 1) := by decide +kernel
set_option maxRecDepth 20000 in
theorem ggX2_collapse_X3_put : GoodIn wsX2_collapse wsX3_put := goodIn_r _ [10, 11, 12, 13, 14, 27, 28, 29, 30] (by decide +kernel) (by decide +kernel)
set_option maxRecDepth 20000 in
theorem gX2_collapse_X3_put : GoodIn wsX2_collapse (wsV RX2 136 RX3 yX3_put wsX3_put) := goodIn_app (goodIn_of _ (by decide +kernel)) ggX2_collapse_X3_put
theorem dX2_collapse_0 : decode cX2_collapse 0 = .ok (.iload_n 1, 1) := by decide +kernel
theorem dX2_collapse_1 : decode cX2_collapse 1 = .ok (.istore_n 3, 1) := by decide +kernel
theorem dX2_collapse_2 : decode cX2_collapse 2 = .ok (.iload_n 3, 1) := by decide +kernel
theorem dX2_collapse_3 : decode cX2_collapse 3 = .ok (.aload_n 0, 1) := by decide +kernel
theorem dX2_collapse_4 : decode cX2_collapse 4 = .ok (.getfield 41, 3) := by decide +kernel
theorem dX2_collapse_7 : decode cX2_collapse 7 = .ok (.if_icmp .ge 35, 3) := by decide +kernel
theorem dX2_collapse_10 : decode cX2_collapse 10 = .ok (.aload_n 2, 1) := by decide +kernel
theorem dX2_collapse_11 : decode cX2_collapse 11 = .ok (.aload_n 0, 1) := by decide +kernel
theorem dX2_collapse_12 : decode cX2_collapse 12 = .ok (.getfield 9, 3) := by decide +kernel
theorem dX2_collapse_15 : decode cX2_collapse 15 = .ok (.iload_n 3, 1) := by decide +kernel
theorem dX2_collapse_16 : decode cX2_collapse 16 = .ok (.iaload, 1) := by decide +kernel
theorem dX2_collapse_17 : decode cX2_collapse 17 = .ok (.aload_n 0, 1) := by decide +kernel
theorem dX2_collapse_18 : decode cX2_collapse 18 = .ok (.getfield 21, 3) := by decide +kernel
theorem dX2_collapse_21 : decode cX2_collapse 21 = .ok (.getfield 53, 3) := by decide +kernel
theorem dX2_collapse_24 : decode cX2_collapse 24 = .ok (.aload_n 0, 1) := by decide +kernel
theorem dX2_collapse_25 : decode cX2_collapse 25 = .ok (.getfield 21, 3) := by decide +kernel
theorem dX2_collapse_28 : decode cX2_collapse 28 = .ok (.getfield 56, 3) := by decide +kernel
theorem dX2_collapse_31 : decode cX2_collapse 31 = .ok (.iconst 0, 1) := by decide +kernel
theorem dX2_collapse_32 : decode cX2_collapse 32 = .ok (.iconst 0, 1) := by decide +kernel
theorem dX2_collapse_33 : decode cX2_collapse 33 = .ok (.invokevirtual 136, 3) := by decide +kernel
theorem dX2_collapse_36 : decode cX2_collapse 36 = .ok (.iinc 3 1, 3) := by decide +kernel
theorem dX2_collapse_39 : decode cX2_collapse 39 = .ok (.goto (-37), 3) := by decide +kernel
theorem dX2_collapse_42 : decode cX2_collapse 42 = .ok (.return_, 1) := by decide +kernel
set_option maxRecDepth 20000 in
theorem ggX2_fillBand_X4_clear : GoodIn wsX2_fillBand wsX4_clear := goodIn_r _ [14, 15, 52, 53, 54, 55] (by decide +kernel) (by decide +kernel)
set_option maxRecDepth 20000 in
theorem gX2_fillBand_X4_clear : GoodIn wsX2_fillBand (wsV RX2 86 RX4 yX4_clear wsX4_clear) := goodIn_app (goodIn_of _ (by decide +kernel)) ggX2_fillBand_X4_clear
set_option maxRecDepth 20000 in
theorem ggX2_fillBand_X4_add : GoodIn wsX2_fillBand wsX4_add := goodIn_r _ [19, 15, 20, 52, 53, 54, 55] (by decide +kernel) (by decide +kernel)
set_option maxRecDepth 20000 in
theorem gX2_fillBand_X4_add : GoodIn wsX2_fillBand (wsV RX2 97 RX4 yX4_add wsX4_add) := goodIn_app (goodIn_of _ (by decide +kernel)) ggX2_fillBand_X4_add
set_option maxRecDepth 20000 in
theorem ggX2_fillBand_X4_apportion : GoodIn wsX2_fillBand wsX4_apportion := goodIn_r _ [24, 15, 20, 25, 26, 27, 28, 29, 13, 30, 52, 53, 54, 55] (by decide +kernel) (by decide +kernel)
set_option maxRecDepth 20000 in
theorem gX2_fillBand_X4_apportion : GoodIn wsX2_fillBand (wsV RX2 72 RX4 yX4_apportion wsX4_apportion) := goodIn_app (goodIn_of _ (by decide +kernel)) ggX2_fillBand_X4_apportion
set_option maxRecDepth 20000 in
theorem ggX2_fillBand_X3_put : GoodIn wsX2_fillBand wsX3_put := goodIn_r _ [35, 36, 37, 38, 39, 56, 57, 58, 59] (by decide +kernel) (by decide +kernel)
set_option maxRecDepth 20000 in
theorem gX2_fillBand_X3_put : GoodIn wsX2_fillBand (wsV RX2 136 RX3 yX3_put wsX3_put) := goodIn_app (goodIn_of _ (by decide +kernel)) ggX2_fillBand_X3_put
theorem dX2_fillBand_0 : decode cX2_fillBand 0 = .ok (.aload_n 0, 1) := by decide +kernel
theorem dX2_fillBand_1 : decode cX2_fillBand 1 = .ok (.getfield 31, 3) := by decide +kernel
theorem dX2_fillBand_4 : decode cX2_fillBand 4 = .ok (.invokevirtual 86, 3) := by decide +kernel
theorem dX2_fillBand_7 : decode cX2_fillBand 7 = .ok (.iload_n 1, 1) := by decide +kernel
theorem dX2_fillBand_8 : decode cX2_fillBand 8 = .ok (.istore 5, 2) := by decide +kernel
theorem dX2_fillBand_10 : decode cX2_fillBand 10 = .ok (.iload 5, 2) := by decide +kernel
theorem dX2_fillBand_12 : decode cX2_fillBand 12 = .ok (.iload_n 2, 1) := by decide +kernel
theorem dX2_fillBand_13 : decode cX2_fillBand 13 = .ok (.if_icmp .ge 23, 3) := by decide +kernel
theorem dX2_fillBand_16 : decode cX2_fillBand 16 = .ok (.aload_n 0, 1) := by decide +kernel
theorem dX2_fillBand_17 : decode cX2_fillBand 17 = .ok (.getfield 31, 3) := by decide +kernel
theorem dX2_fillBand_20 : decode cX2_fillBand 20 = .ok (.aload_n 0, 1) := by decide +kernel
theorem dX2_fillBand_21 : decode cX2_fillBand 21 = .ok (.getfield 15, 3) := by decide +kernel
theorem dX2_fillBand_24 : decode cX2_fillBand 24 = .ok (.iload 5, 2) := by decide +kernel
theorem dX2_fillBand_26 : decode cX2_fillBand 26 = .ok (.iaload, 1) := by decide +kernel
theorem dX2_fillBand_27 : decode cX2_fillBand 27 = .ok (.invokevirtual 97, 3) := by decide +kernel
theorem dX2_fillBand_30 : decode cX2_fillBand 30 = .ok (.iinc 5 1, 3) := by decide +kernel
theorem dX2_fillBand_33 : decode cX2_fillBand 33 = .ok (.goto (-23), 3) := by decide +kernel
theorem dX2_fillBand_36 : decode cX2_fillBand 36 = .ok (.aload_n 0, 1) := by decide +kernel
theorem dX2_fillBand_37 : decode cX2_fillBand 37 = .ok (.getfield 31, 3) := by decide +kernel
theorem dX2_fillBand_40 : decode cX2_fillBand 40 = .ok (.iload_n 3, 1) := by decide +kernel
theorem dX2_fillBand_41 : decode cX2_fillBand 41 = .ok (.ifCond .eq 13, 3) := by decide +kernel
theorem dX2_fillBand_44 : decode cX2_fillBand 44 = .ok (.aload_n 0, 1) := by decide +kernel
theorem dX2_fillBand_45 : decode cX2_fillBand 45 = .ok (.getfield 25, 3) := by decide +kernel
theorem dX2_fillBand_48 : decode cX2_fillBand 48 = .ok (.getfield 59, 3) := by decide +kernel
theorem dX2_fillBand_51 : decode cX2_fillBand 51 = .ok (.goto 10, 3) := by decide +kernel
theorem dX2_fillBand_54 : decode cX2_fillBand 54 = .ok (.aload_n 0, 1) := by decide +kernel
theorem dX2_fillBand_55 : decode cX2_fillBand 55 = .ok (.getfield 25, 3) := by decide +kernel
theorem dX2_fillBand_58 : decode cX2_fillBand 58 = .ok (.getfield 62, 3) := by decide +kernel
theorem dX2_fillBand_61 : decode cX2_fillBand 61 = .ok (.invokevirtual 72, 3) := by decide +kernel
theorem dX2_fillBand_64 : decode cX2_fillBand 64 = .ok (.iconst 0, 1) := by decide +kernel
theorem dX2_fillBand_65 : decode cX2_fillBand 65 = .ok (.istore 5, 2) := by decide +kernel
theorem dX2_fillBand_67 : decode cX2_fillBand 67 = .ok (.iload_n 1, 1) := by decide +kernel
theorem dX2_fillBand_68 : decode cX2_fillBand 68 = .ok (.istore 6, 2) := by decide +kernel
theorem dX2_fillBand_70 : decode cX2_fillBand 70 = .ok (.iload 6, 2) := by decide +kernel
theorem dX2_fillBand_72 : decode cX2_fillBand 72 = .ok (.iload_n 2, 1) := by decide +kernel
theorem dX2_fillBand_73 : decode cX2_fillBand 73 = .ok (.if_icmp .ge 113, 3) := by decide +kernel
theorem dX2_fillBand_76 : decode cX2_fillBand 76 = .ok (.aload_n 0, 1) := by decide +kernel
theorem dX2_fillBand_77 : decode cX2_fillBand 77 = .ok (.getfield 31, 3) := by decide +kernel
theorem dX2_fillBand_80 : decode cX2_fillBand 80 = .ok (.getfield 79, 3) := by decide +kernel
theorem dX2_fillBand_83 : decode cX2_fillBand 83 = .ok (.iload 6, 2) := by decide +kernel
theorem dX2_fillBand_85 : decode cX2_fillBand 85 = .ok (.iload_n 1, 1) := by decide +kernel
theorem dX2_fillBand_86 : decode cX2_fillBand 86 = .ok (.isub, 1) := by decide +kernel
theorem dX2_fillBand_87 : decode cX2_fillBand 87 = .ok (.iaload, 1) := by decide +kernel
theorem dX2_fillBand_88 : decode cX2_fillBand 88 = .ok (.istore 7, 2) := by decide +kernel
theorem dX2_fillBand_90 : decode cX2_fillBand 90 = .ok (.iload_n 3, 1) := by decide +kernel
theorem dX2_fillBand_91 : decode cX2_fillBand 91 = .ok (.ifCond .eq 44, 3) := by decide +kernel
theorem dX2_fillBand_94 : decode cX2_fillBand 94 = .ok (.aload 4, 2) := by decide +kernel
theorem dX2_fillBand_96 : decode cX2_fillBand 96 = .ok (.aload_n 0, 1) := by decide +kernel
theorem dX2_fillBand_97 : decode cX2_fillBand 97 = .ok (.getfield 9, 3) := by decide +kernel
theorem dX2_fillBand_100 : decode cX2_fillBand 100 = .ok (.iload 6, 2) := by decide +kernel
theorem dX2_fillBand_102 : decode cX2_fillBand 102 = .ok (.iaload, 1) := by decide +kernel
theorem dX2_fillBand_103 : decode cX2_fillBand 103 = .ok (.aload_n 0, 1) := by decide +kernel
theorem dX2_fillBand_104 : decode cX2_fillBand 104 = .ok (.getfield 25, 3) := by decide +kernel
theorem dX2_fillBand_107 : decode cX2_fillBand 107 = .ok (.getfield 53, 3) := by decide +kernel
theorem dX2_fillBand_110 : decode cX2_fillBand 110 = .ok (.iload 5, 2) := by decide +kernel
theorem dX2_fillBand_112 : decode cX2_fillBand 112 = .ok (.iadd, 1) := by decide +kernel
theorem dX2_fillBand_113 : decode cX2_fillBand 113 = .ok (.aload_n 0, 1) := by decide +kernel
theorem dX2_fillBand_114 : decode cX2_fillBand 114 = .ok (.getfield 25, 3) := by decide +kernel
theorem dX2_fillBand_117 : decode cX2_fillBand 117 = .ok (.getfield 56, 3) := by decide +kernel
theorem dX2_fillBand_120 : decode cX2_fillBand 120 = .ok (.iload 7, 2) := by decide +kernel
theorem dX2_fillBand_122 : decode cX2_fillBand 122 = .ok (.aload_n 0, 1) := by decide +kernel
theorem dX2_fillBand_123 : decode cX2_fillBand 123 = .ok (.getfield 25, 3) := by decide +kernel
theorem dX2_fillBand_126 : decode cX2_fillBand 126 = .ok (.getfield 62, 3) := by decide +kernel
theorem dX2_fillBand_129 : decode cX2_fillBand 129 = .ok (.invokevirtual 136, 3) := by decide +kernel
theorem dX2_fillBand_132 : decode cX2_fillBand 132 = .ok (.goto 41, 3) := by decide +kernel
theorem dX2_fillBand_135 : decode cX2_fillBand 135 = .ok (.aload 4, 2) := by decide +kernel
theorem dX2_fillBand_137 : decode cX2_fillBand 137 = .ok (.aload_n 0, 1) := by decide +kernel
theorem dX2_fillBand_138 : decode cX2_fillBand 138 = .ok (.getfield 9, 3) := by decide +kernel
theorem dX2_fillBand_141 : decode cX2_fillBand 141 = .ok (.iload 6, 2) := by decide +kernel
theorem dX2_fillBand_143 : decode cX2_fillBand 143 = .ok (.iaload, 1) := by decide +kernel
theorem dX2_fillBand_144 : decode cX2_fillBand 144 = .ok (.aload_n 0, 1) := by decide +kernel
theorem dX2_fillBand_145 : decode cX2_fillBand 145 = .ok (.getfield 25, 3) := by decide +kernel
theorem dX2_fillBand_148 : decode cX2_fillBand 148 = .ok (.getfield 53, 3) := by decide +kernel
theorem dX2_fillBand_151 : decode cX2_fillBand 151 = .ok (.aload_n 0, 1) := by decide +kernel
theorem dX2_fillBand_152 : decode cX2_fillBand 152 = .ok (.getfield 25, 3) := by decide +kernel
theorem dX2_fillBand_155 : decode cX2_fillBand 155 = .ok (.getfield 56, 3) := by decide +kernel
theorem dX2_fillBand_158 : decode cX2_fillBand 158 = .ok (.iload 5, 2) := by decide +kernel
theorem dX2_fillBand_160 : decode cX2_fillBand 160 = .ok (.iadd, 1) := by decide +kernel
theorem dX2_fillBand_161 : decode cX2_fillBand 161 = .ok (.aload_n 0, 1) := by decide +kernel
theorem dX2_fillBand_162 : decode cX2_fillBand 162 = .ok (.getfield 25, 3) := by decide +kernel
theorem dX2_fillBand_165 : decode cX2_fillBand 165 = .ok (.getfield 59, 3) := by decide +kernel
theorem dX2_fillBand_168 : decode cX2_fillBand 168 = .ok (.iload 7, 2) := by decide +kernel
theorem dX2_fillBand_170 : decode cX2_fillBand 170 = .ok (.invokevirtual 136, 3) := by decide +kernel
theorem dX2_fillBand_173 : decode cX2_fillBand 173 = .ok (.iload 5, 2) := by decide +kernel
theorem dX2_fillBand_175 : decode cX2_fillBand 175 = .ok (.iload 7, 2) := by decide +kernel
theorem dX2_fillBand_177 : decode cX2_fillBand 177 = .ok (.iadd, 1) := by decide +kernel
theorem dX2_fillBand_178 : decode cX2_fillBand 178 = .ok (.istore 5, 2) := by decide +kernel
theorem dX2_fillBand_180 : decode cX2_fillBand 180 = .ok (.iinc 6 1, 3) := by decide +kernel
theorem dX2_fillBand_183 : decode cX2_fillBand 183 = .ok (.goto (-113), 3) := by decide +kernel
theorem dX2_fillBand_186 : decode cX2_fillBand 186 = .ok (.return_, 1) := by decide +kernel
set_option maxRecDepth 20000 in
theorem ggX2_pixelsPerSize_X2_sumOfSizes : GoodIn wsX2_pixelsPerSize wsX2_sumOfSizes := goodIn_r _ [9, 10, 11, 12, 13, 14, 15, 16, 17, 18] (by decide +kernel) (by decide +kernel)
set_option maxRecDepth 20000 in
theorem gX2_pixelsPerSize_X2_sumOfSizes : GoodIn wsX2_pixelsPerSize (wsV RX2 93 RX2 yX2_sumOfSizes wsX2_sumOfSizes) := goodIn_app (goodIn_of _ (by decide +kernel)) ggX2_pixelsPerSize_X2_sumOfSizes
theorem dX2_pixelsPerSize_0 : decode cX2_pixelsPerSize 0 = .ok (.aload_n 0, 1) := by decide +kernel
theorem dX2_pixelsPerSize_1 : decode cX2_pixelsPerSize 1 = .ok (.iload_n 1, 1) := by decide +kernel
theorem dX2_pixelsPerSize_2 : decode cX2_pixelsPerSize 2 = .ok (.aload_n 0, 1) := by decide +kernel
theorem dX2_pixelsPerSize_3 : decode cX2_pixelsPerSize 3 = .ok (.getfield 41, 3) := by decide +kernel
theorem dX2_pixelsPerSize_6 : decode cX2_pixelsPerSize 6 = .ok (.invokevirtual 93, 3) := by decide +kernel
theorem dX2_pixelsPerSize_9 : decode cX2_pixelsPerSize 9 = .ok (.istore_n 2, 1) := by decide +kernel
theorem dX2_pixelsPerSize_10 : decode cX2_pixelsPerSize 10 = .ok (.iload_n 2, 1) := by decide +kernel
theorem dX2_pixelsPerSize_11 : decode cX2_pixelsPerSize 11 = .ok (.ifCond .le 25, 3) := by decide +kernel
theorem dX2_pixelsPerSize_14 : decode cX2_pixelsPerSize 14 = .ok (.aload_n 0, 1) := by decide +kernel
theorem dX2_pixelsPerSize_15 : decode cX2_pixelsPerSize 15 = .ok (.getfield 21, 3) := by decide +kernel
theorem dX2_pixelsPerSize_18 : decode cX2_pixelsPerSize 18 = .ok (.getfield 59, 3) := by decide +kernel
theorem dX2_pixelsPerSize_21 : decode cX2_pixelsPerSize 21 = .ok (.aload_n 0, 1) := by decide +kernel
theorem dX2_pixelsPerSize_22 : decode cX2_pixelsPerSize 22 = .ok (.getfield 21, 3) := by decide +kernel
theorem dX2_pixelsPerSize_25 : decode cX2_pixelsPerSize 25 = .ok (.getfield 62, 3) := by decide +kernel
theorem dX2_pixelsPerSize_28 : decode cX2_pixelsPerSize 28 = .ok (.imul, 1) := by decide +kernel
theorem dX2_pixelsPerSize_29 : decode cX2_pixelsPerSize 29 = .ok (.i2f, 1) := by decide +kernel
theorem dX2_pixelsPerSize_30 : decode cX2_pixelsPerSize 30 = .ok (.iload_n 2, 1) := by decide +kernel
theorem dX2_pixelsPerSize_31 : decode cX2_pixelsPerSize 31 = .ok (.i2f, 1) := by decide +kernel
theorem dX2_pixelsPerSize_32 : decode cX2_pixelsPerSize 32 = .ok (.fdiv, 1) := by decide +kernel
theorem dX2_pixelsPerSize_33 : decode cX2_pixelsPerSize 33 = .ok (.goto 4, 3) := by decide +kernel
theorem dX2_pixelsPerSize_36 : decode cX2_pixelsPerSize 36 = .ok (.fconst 0, 1) := by decide +kernel
theorem dX2_pixelsPerSize_37 : decode cX2_pixelsPerSize 37 = .ok (.freturn, 1) := by decide +kernel
theorem dX2_thicknessOf_0 : decode cX2_thicknessOf 0 = .ok (.iload_n 2, 1) := by decide +kernel
theorem dX2_thicknessOf_1 : decode cX2_thicknessOf 1 = .ok (.ifCond .le 13, 3) := by decide +kernel
theorem dX2_thicknessOf_4 : decode cX2_thicknessOf 4 = .ok (.iload_n 0, 1) := by decide +kernel
theorem dX2_thicknessOf_5 : decode cX2_thicknessOf 5 = .ok (.i2f, 1) := by decide +kernel
theorem dX2_thicknessOf_6 : decode cX2_thicknessOf 6 = .ok (.fload_n 1, 1) := by decide +kernel
theorem dX2_thicknessOf_7 : decode cX2_thicknessOf 7 = .ok (.fmul, 1) := by decide +kernel
theorem dX2_thicknessOf_8 : decode cX2_thicknessOf 8 = .ok (.iload_n 2, 1) := by decide +kernel
theorem dX2_thicknessOf_9 : decode cX2_thicknessOf 9 = .ok (.i2f, 1) := by decide +kernel
theorem dX2_thicknessOf_10 : decode cX2_thicknessOf 10 = .ok (.fdiv, 1) := by decide +kernel
theorem dX2_thicknessOf_11 : decode cX2_thicknessOf 11 = .ok (.goto 4, 3) := by decide +kernel
theorem dX2_thicknessOf_14 : decode cX2_thicknessOf 14 = .ok (.fconst 0, 1) := by decide +kernel
theorem dX2_thicknessOf_15 : decode cX2_thicknessOf 15 = .ok (.freturn, 1) := by decide +kernel
theorem dX2_ratio_0 : decode cX2_ratio 0 = .ok (.fload_n 2, 1) := by decide +kernel
theorem dX2_ratio_1 : decode cX2_ratio 1 = .ok (.fconst 0, 1) := by decide +kernel
theorem dX2_ratio_2 : decode cX2_ratio 2 = .ok (.fcmp .l, 1) := by decide +kernel
theorem dX2_ratio_3 : decode cX2_ratio 3 = .ok (.ifCond .le 12, 3) := by decide +kernel
theorem dX2_ratio_6 : decode cX2_ratio 6 = .ok (.iload_n 0, 1) := by decide +kernel
theorem dX2_ratio_7 : decode cX2_ratio 7 = .ok (.i2f, 1) := by decide +kernel
theorem dX2_ratio_8 : decode cX2_ratio 8 = .ok (.fload_n 1, 1) := by decide +kernel
theorem dX2_ratio_9 : decode cX2_ratio 9 = .ok (.fmul, 1) := by decide +kernel
theorem dX2_ratio_10 : decode cX2_ratio 10 = .ok (.fload_n 2, 1) := by decide +kernel
theorem dX2_ratio_11 : decode cX2_ratio 11 = .ok (.fdiv, 1) := by decide +kernel
theorem dX2_ratio_12 : decode cX2_ratio 12 = .ok (.goto 4, 3) := by decide +kernel
theorem dX2_ratio_15 : decode cX2_ratio 15 = .ok (.fconst 0, 1) := by decide +kernel
theorem dX2_ratio_16 : decode cX2_ratio 16 = .ok (.fstore_n 3, 1) := by decide +kernel
theorem dX2_ratio_17 : decode cX2_ratio 17 = .ok (.fload_n 3, 1) := by decide +kernel
theorem dX2_ratio_18 : decode cX2_ratio 18 = .ok (.fconst 0, 1) := by decide +kernel
theorem dX2_ratio_19 : decode cX2_ratio 19 = .ok (.fcmp .g, 1) := by decide +kernel
theorem dX2_ratio_20 : decode cX2_ratio 20 = .ok (.ifCond .gt 5, 3) := by decide +kernel
theorem dX2_ratio_23 : decode cX2_ratio 23 = .ok (.fconst 0, 1) := by decide +kernel
theorem dX2_ratio_24 : decode cX2_ratio 24 = .ok (.freturn, 1) := by decide +kernel
theorem dX2_ratio_25 : decode cX2_ratio 25 = .ok (.fload_n 3, 1) := by decide +kernel
theorem dX2_ratio_26 : decode cX2_ratio 26 = .ok (.fload_n 2, 1) := by decide +kernel
theorem dX2_ratio_27 : decode cX2_ratio 27 = .ok (.fdiv, 1) := by decide +kernel
theorem dX2_ratio_28 : decode cX2_ratio 28 = .ok (.fstore 4, 2) := by decide +kernel
theorem dX2_ratio_30 : decode cX2_ratio 30 = .ok (.fload_n 2, 1) := by decide +kernel
theorem dX2_ratio_31 : decode cX2_ratio 31 = .ok (.fload_n 3, 1) := by decide +kernel
theorem dX2_ratio_32 : decode cX2_ratio 32 = .ok (.fdiv, 1) := by decide +kernel
theorem dX2_ratio_33 : decode cX2_ratio 33 = .ok (.fstore 5, 2) := by decide +kernel
theorem dX2_ratio_35 : decode cX2_ratio 35 = .ok (.fload 4, 2) := by decide +kernel
theorem dX2_ratio_37 : decode cX2_ratio 37 = .ok (.fload 5, 2) := by decide +kernel
theorem dX2_ratio_39 : decode cX2_ratio 39 = .ok (.fcmp .l, 1) := by decide +kernel
theorem dX2_ratio_40 : decode cX2_ratio 40 = .ok (.ifCond .lt 8, 3) := by decide +kernel
theorem dX2_ratio_43 : decode cX2_ratio 43 = .ok (.fload 4, 2) := by decide +kernel
theorem dX2_ratio_45 : decode cX2_ratio 45 = .ok (.goto 5, 3) := by decide +kernel
theorem dX2_ratio_48 : decode cX2_ratio 48 = .ok (.fload 5, 2) := by decide +kernel
theorem dX2_ratio_50 : decode cX2_ratio 50 = .ok (.freturn, 1) := by decide +kernel
theorem dX2_sumOfSizes_0 : decode cX2_sumOfSizes 0 = .ok (.iconst 0, 1) := by decide +kernel
theorem dX2_sumOfSizes_1 : decode cX2_sumOfSizes 1 = .ok (.istore_n 3, 1) := by decide +kernel
theorem dX2_sumOfSizes_2 : decode cX2_sumOfSizes 2 = .ok (.iload_n 1, 1) := by decide +kernel
theorem dX2_sumOfSizes_3 : decode cX2_sumOfSizes 3 = .ok (.istore 4, 2) := by decide +kernel
theorem dX2_sumOfSizes_5 : decode cX2_sumOfSizes 5 = .ok (.iload 4, 2) := by decide +kernel
theorem dX2_sumOfSizes_7 : decode cX2_sumOfSizes 7 = .ok (.iload_n 2, 1) := by decide +kernel
theorem dX2_sumOfSizes_8 : decode cX2_sumOfSizes 8 = .ok (.if_icmp .ge 19, 3) := by decide +kernel
theorem dX2_sumOfSizes_11 : decode cX2_sumOfSizes 11 = .ok (.iload_n 3, 1) := by decide +kernel
theorem dX2_sumOfSizes_12 : decode cX2_sumOfSizes 12 = .ok (.aload_n 0, 1) := by decide +kernel
theorem dX2_sumOfSizes_13 : decode cX2_sumOfSizes 13 = .ok (.getfield 15, 3) := by decide +kernel
theorem dX2_sumOfSizes_16 : decode cX2_sumOfSizes 16 = .ok (.iload 4, 2) := by decide +kernel
theorem dX2_sumOfSizes_18 : decode cX2_sumOfSizes 18 = .ok (.iaload, 1) := by decide +kernel
theorem dX2_sumOfSizes_19 : decode cX2_sumOfSizes 19 = .ok (.iadd, 1) := by decide +kernel
theorem dX2_sumOfSizes_20 : decode cX2_sumOfSizes 20 = .ok (.istore_n 3, 1) := by decide +kernel
theorem dX2_sumOfSizes_21 : decode cX2_sumOfSizes 21 = .ok (.iinc 4 1, 3) := by decide +kernel
theorem dX2_sumOfSizes_24 : decode cX2_sumOfSizes 24 = .ok (.goto (-19), 3) := by decide +kernel
theorem dX2_sumOfSizes_27 : decode cX2_sumOfSizes 27 = .ok (.iload_n 3, 1) := by decide +kernel
theorem dX2_sumOfSizes_28 : decode cX2_sumOfSizes 28 = .ok (.ireturn, 1) := by decide +kernel
theorem dX3_init_0 : decode cX3_init 0 = .ok (.aload_n 0, 1) := by decide +kernel
theorem dX3_init_1 : decode cX3_init 1 = .ok (.invokespecial 3, 3) := by decide +kernel
theorem dX3_init_4 : decode cX3_init 4 = .ok (.aload_n 0, 1) := by decide +kernel
theorem dX3_init_5 : decode cX3_init 5 = .ok (.bipush 24, 2) := by decide +kernel
theorem dX3_init_7 : decode cX3_init 7 = .ok (.newarray .int, 2) := by decide +kernel
theorem dX3_init_9 : decode cX3_init 9 = .ok (.putfield 9, 3) := by decide +kernel
theorem dX3_init_12 : decode cX3_init 12 = .ok (.aload_n 0, 1) := by decide +kernel
theorem dX3_init_13 : decode cX3_init 13 = .ok (.bipush 24, 2) := by decide +kernel
theorem dX3_init_15 : decode cX3_init 15 = .ok (.newarray .int, 2) := by decide +kernel
theorem dX3_init_17 : decode cX3_init 17 = .ok (.putfield 15, 3) := by decide +kernel
theorem dX3_init_20 : decode cX3_init 20 = .ok (.aload_n 0, 1) := by decide +kernel
theorem dX3_init_21 : decode cX3_init 21 = .ok (.bipush 24, 2) := by decide +kernel
theorem dX3_init_23 : decode cX3_init 23 = .ok (.newarray .int, 2) := by decide +kernel
theorem dX3_init_25 : decode cX3_init 25 = .ok (.putfield 18, 3) := by decide +kernel
theorem dX3_init_28 : decode cX3_init 28 = .ok (.aload_n 0, 1) := by decide +kernel
theorem dX3_init_29 : decode cX3_init 29 = .ok (.bipush 24, 2) := by decide +kernel
theorem dX3_init_31 : decode cX3_init 31 = .ok (.newarray .int, 2) := by decide +kernel
theorem dX3_init_33 : decode cX3_init 33 = .ok (.putfield 21, 3) := by decide +kernel
theorem dX3_init_36 : decode cX3_init 36 = .ok (.return_, 1) := by decide +kernel
theorem dX3_put_0 : decode cX3_put 0 = .ok (.aload_n 0, 1) := by decide +kernel
theorem dX3_put_1 : decode cX3_put 1 = .ok (.getfield 9, 3) := by decide +kernel
theorem dX3_put_4 : decode cX3_put 4 = .ok (.iload_n 1, 1) := by decide +kernel
theorem dX3_put_5 : decode cX3_put 5 = .ok (.iload_n 2, 1) := by decide +kernel
theorem dX3_put_6 : decode cX3_put 6 = .ok (.iastore, 1) := by decide +kernel
theorem dX3_put_7 : decode cX3_put 7 = .ok (.aload_n 0, 1) := by decide +kernel
theorem dX3_put_8 : decode cX3_put 8 = .ok (.getfield 15, 3) := by decide +kernel
theorem dX3_put_11 : decode cX3_put 11 = .ok (.iload_n 1, 1) := by decide +kernel
theorem dX3_put_12 : decode cX3_put 12 = .ok (.iload_n 3, 1) := by decide +kernel
theorem dX3_put_13 : decode cX3_put 13 = .ok (.iastore, 1) := by decide +kernel
theorem dX3_put_14 : decode cX3_put 14 = .ok (.aload_n 0, 1) := by decide +kernel
theorem dX3_put_15 : decode cX3_put 15 = .ok (.getfield 18, 3) := by decide +kernel
theorem dX3_put_18 : decode cX3_put 18 = .ok (.iload_n 1, 1) := by decide +kernel
theorem dX3_put_19 : decode cX3_put 19 = .ok (.iload 4, 2) := by decide +kernel
theorem dX3_put_21 : decode cX3_put 21 = .ok (.iastore, 1) := by decide +kernel
theorem dX3_put_22 : decode cX3_put 22 = .ok (.aload_n 0, 1) := by decide +kernel
theorem dX3_put_23 : decode cX3_put 23 = .ok (.getfield 21, 3) := by decide +kernel
theorem dX3_put_26 : decode cX3_put 26 = .ok (.iload_n 1, 1) := by decide +kernel
theorem dX3_put_27 : decode cX3_put 27 = .ok (.iload 5, 2) := by decide +kernel
theorem dX3_put_29 : decode cX3_put 29 = .ok (.iastore, 1) := by decide +kernel
theorem dX3_put_30 : decode cX3_put 30 = .ok (.return_, 1) := by decide +kernel
theorem dX3_contain_0 : decode cX3_contain 0 = .ok (.iload_n 2, 1) := by decide +kernel
theorem dX3_contain_1 : decode cX3_contain 1 = .ok (.aload_n 0, 1) := by decide +kernel
theorem dX3_contain_2 : decode cX3_contain 2 = .ok (.getfield 9, 3) := by decide +kernel
theorem dX3_contain_5 : decode cX3_contain 5 = .ok (.iload_n 1, 1) := by decide +kernel
theorem dX3_contain_6 : decode cX3_contain 6 = .ok (.iaload, 1) := by decide +kernel
theorem dX3_contain_7 : decode cX3_contain 7 = .ok (.if_icmp .lt 51, 3) := by decide +kernel
theorem dX3_contain_10 : decode cX3_contain 10 = .ok (.iload_n 2, 1) := by decide +kernel
theorem dX3_contain_11 : decode cX3_contain 11 = .ok (.aload_n 0, 1) := by decide +kernel
theorem dX3_contain_12 : decode cX3_contain 12 = .ok (.getfield 9, 3) := by decide +kernel
theorem dX3_contain_15 : decode cX3_contain 15 = .ok (.iload_n 1, 1) := by decide +kernel
theorem dX3_contain_16 : decode cX3_contain 16 = .ok (.iaload, 1) := by decide +kernel
theorem dX3_contain_17 : decode cX3_contain 17 = .ok (.aload_n 0, 1) := by decide +kernel
theorem dX3_contain_18 : decode cX3_contain 18 = .ok (.getfield 18, 3) := by decide +kernel
theorem dX3_contain_21 : decode cX3_contain 21 = .ok (.iload_n 1, 1) := by decide +kernel
theorem dX3_contain_22 : decode cX3_contain 22 = .ok (.iaload, 1) := by decide +kernel
theorem dX3_contain_23 : decode cX3_contain 23 = .ok (.iadd, 1) := by decide +kernel
theorem dX3_contain_24 : decode cX3_contain 24 = .ok (.if_icmp .ge 34, 3) := by decide +kernel
theorem dX3_contain_27 : decode cX3_contain 27 = .ok (.iload_n 3, 1) := by decide +kernel
theorem dX3_contain_28 : decode cX3_contain 28 = .ok (.aload_n 0, 1) := by decide +kernel
theorem dX3_contain_29 : decode cX3_contain 29 = .ok (.getfield 15, 3) := by decide +kernel
theorem dX3_contain_32 : decode cX3_contain 32 = .ok (.iload_n 1, 1) := by decide +kernel
theorem dX3_contain_33 : decode cX3_contain 33 = .ok (.iaload, 1) := by decide +kernel
theorem dX3_contain_34 : decode cX3_contain 34 = .ok (.if_icmp .lt 24, 3) := by decide +kernel
theorem dX3_contain_37 : decode cX3_contain 37 = .ok (.iload_n 3, 1) := by decide +kernel
theorem dX3_contain_38 : decode cX3_contain 38 = .ok (.aload_n 0, 1) := by decide +kernel
theorem dX3_contain_39 : decode cX3_contain 39 = .ok (.getfield 15, 3) := by decide +kernel
theorem dX3_contain_42 : decode cX3_contain 42 = .ok (.iload_n 1, 1) := by decide +kernel
theorem dX3_contain_43 : decode cX3_contain 43 = .ok (.iaload, 1) := by decide +kernel
theorem dX3_contain_44 : decode cX3_contain 44 = .ok (.aload_n 0, 1) := by decide +kernel
theorem dX3_contain_45 : decode cX3_contain 45 = .ok (.getfield 21, 3) := by decide +kernel
theorem dX3_contain_48 : decode cX3_contain 48 = .ok (.iload_n 1, 1) := by decide +kernel
theorem dX3_contain_49 : decode cX3_contain 49 = .ok (.iaload, 1) := by decide +kernel
theorem dX3_contain_50 : decode cX3_contain 50 = .ok (.iadd, 1) := by decide +kernel
theorem dX3_contain_51 : decode cX3_contain 51 = .ok (.if_icmp .ge 7, 3) := by decide +kernel
theorem dX3_contain_54 : decode cX3_contain 54 = .ok (.iconst 1, 1) := by decide +kernel
theorem dX3_contain_55 : decode cX3_contain 55 = .ok (.goto 4, 3) := by decide +kernel
theorem dX3_contain_58 : decode cX3_contain 58 = .ok (.iconst 0, 1) := by decide +kernel
theorem dX3_contain_59 : decode cX3_contain 59 = .ok (.ireturn, 1) := by decide +kernel
theorem dX3_area_0 : decode cX3_area 0 = .ok (.aload_n 0, 1) := by decide +kernel
theorem dX3_area_1 : decode cX3_area 1 = .ok (.getfield 18, 3) := by decide +kernel
theorem dX3_area_4 : decode cX3_area 4 = .ok (.iload_n 1, 1) := by decide +kernel
theorem dX3_area_5 : decode cX3_area 5 = .ok (.iaload, 1) := by decide +kernel
theorem dX3_area_6 : decode cX3_area 6 = .ok (.aload_n 0, 1) := by decide +kernel
theorem dX3_area_7 : decode cX3_area 7 = .ok (.getfield 21, 3) := by decide +kernel
theorem dX3_area_10 : decode cX3_area 10 = .ok (.iload_n 1, 1) := by decide +kernel
theorem dX3_area_11 : decode cX3_area 11 = .ok (.iaload, 1) := by decide +kernel
theorem dX3_area_12 : decode cX3_area 12 = .ok (.imul, 1) := by decide +kernel
theorem dX3_area_13 : decode cX3_area 13 = .ok (.ireturn, 1) := by decide +kernel
theorem dX3_aspect_0 : decode cX3_aspect 0 = .ok (.aload_n 0, 1) := by decide +kernel
theorem dX3_aspect_1 : decode cX3_aspect 1 = .ok (.getfield 18, 3) := by decide +kernel
theorem dX3_aspect_4 : decode cX3_aspect 4 = .ok (.iload_n 1, 1) := by decide +kernel
theorem dX3_aspect_5 : decode cX3_aspect 5 = .ok (.iaload, 1) := by decide +kernel
theorem dX3_aspect_6 : decode cX3_aspect 6 = .ok (.aload_n 0, 1) := by decide +kernel
theorem dX3_aspect_7 : decode cX3_aspect 7 = .ok (.getfield 21, 3) := by decide +kernel
theorem dX3_aspect_10 : decode cX3_aspect 10 = .ok (.iload_n 1, 1) := by decide +kernel
theorem dX3_aspect_11 : decode cX3_aspect 11 = .ok (.iaload, 1) := by decide +kernel
theorem dX3_aspect_12 : decode cX3_aspect 12 = .ok (.invokestatic 24, 3) := by decide +kernel
theorem dX3_aspect_15 : decode cX3_aspect 15 = .ok (.istore_n 2, 1) := by decide +kernel
theorem dX3_aspect_16 : decode cX3_aspect 16 = .ok (.aload_n 0, 1) := by decide +kernel
theorem dX3_aspect_17 : decode cX3_aspect 17 = .ok (.getfield 18, 3) := by decide +kernel
theorem dX3_aspect_20 : decode cX3_aspect 20 = .ok (.iload_n 1, 1) := by decide +kernel
theorem dX3_aspect_21 : decode cX3_aspect 21 = .ok (.iaload, 1) := by decide +kernel
theorem dX3_aspect_22 : decode cX3_aspect 22 = .ok (.aload_n 0, 1) := by decide +kernel
theorem dX3_aspect_23 : decode cX3_aspect 23 = .ok (.getfield 21, 3) := by decide +kernel
theorem dX3_aspect_26 : decode cX3_aspect 26 = .ok (.iload_n 1, 1) := by decide +kernel
theorem dX3_aspect_27 : decode cX3_aspect 27 = .ok (.iaload, 1) := by decide +kernel
theorem dX3_aspect_28 : decode cX3_aspect 28 = .ok (.invokestatic 30, 3) := by decide +kernel
theorem dX3_aspect_31 : decode cX3_aspect 31 = .ok (.istore_n 3, 1) := by decide +kernel
theorem dX3_aspect_32 : decode cX3_aspect 32 = .ok (.iload_n 3, 1) := by decide +kernel
theorem dX3_aspect_33 : decode cX3_aspect 33 = .ok (.ifCond .le 11, 3) := by decide +kernel
theorem dX3_aspect_36 : decode cX3_aspect 36 = .ok (.iload_n 2, 1) := by decide +kernel
theorem dX3_aspect_37 : decode cX3_aspect 37 = .ok (.i2f, 1) := by decide +kernel
theorem dX3_aspect_38 : decode cX3_aspect 38 = .ok (.iload_n 3, 1) := by decide +kernel
theorem dX3_aspect_39 : decode cX3_aspect 39 = .ok (.i2f, 1) := by decide +kernel
theorem dX3_aspect_40 : decode cX3_aspect 40 = .ok (.fdiv, 1) := by decide +kernel
theorem dX3_aspect_41 : decode cX3_aspect 41 = .ok (.goto 4, 3) := by decide +kernel
theorem dX3_aspect_44 : decode cX3_aspect 44 = .ok (.fconst 0, 1) := by decide +kernel
theorem dX3_aspect_45 : decode cX3_aspect 45 = .ok (.freturn, 1) := by decide +kernel
theorem dX3_difference_0 : decode cX3_difference 0 = .ok (.aload_n 0, 1) := by decide +kernel
theorem dX3_difference_1 : decode cX3_difference 1 = .ok (.getfield 9, 3) := by decide +kernel
theorem dX3_difference_4 : decode cX3_difference 4 = .ok (.iload_n 1, 1) := by decide +kernel
theorem dX3_difference_5 : decode cX3_difference 5 = .ok (.iaload, 1) := by decide +kernel
theorem dX3_difference_6 : decode cX3_difference 6 = .ok (.aload_n 2, 1) := by decide +kernel
theorem dX3_difference_7 : decode cX3_difference 7 = .ok (.getfield 9, 3) := by decide +kernel
theorem dX3_difference_10 : decode cX3_difference 10 = .ok (.iload_n 1, 1) := by decide +kernel
theorem dX3_difference_11 : decode cX3_difference 11 = .ok (.iaload, 1) := by decide +kernel
theorem dX3_difference_12 : decode cX3_difference 12 = .ok (.isub, 1) := by decide +kernel
theorem dX3_difference_13 : decode cX3_difference 13 = .ok (.invokestatic 33, 3) := by decide +kernel
theorem dX3_difference_16 : decode cX3_difference 16 = .ok (.aload_n 0, 1) := by decide +kernel
theorem dX3_difference_17 : decode cX3_difference 17 = .ok (.getfield 15, 3) := by decide +kernel
theorem dX3_difference_20 : decode cX3_difference 20 = .ok (.iload_n 1, 1) := by decide +kernel
theorem dX3_difference_21 : decode cX3_difference 21 = .ok (.iaload, 1) := by decide +kernel
theorem dX3_difference_22 : decode cX3_difference 22 = .ok (.aload_n 2, 1) := by decide +kernel
theorem dX3_difference_23 : decode cX3_difference 23 = .ok (.getfield 15, 3) := by decide +kernel
theorem dX3_difference_26 : decode cX3_difference 26 = .ok (.iload_n 1, 1) := by decide +kernel
theorem dX3_difference_27 : decode cX3_difference 27 = .ok (.iaload, 1) := by decide +kernel
theorem dX3_difference_28 : decode cX3_difference 28 = .ok (.isub, 1) := by decide +kernel
theorem dX3_difference_29 : decode cX3_difference 29 = .ok (.invokestatic 33, 3) := by decide +kernel
theorem dX3_difference_32 : decode cX3_difference 32 = .ok (.iadd, 1) := by decide +kernel
theorem dX3_difference_33 : decode cX3_difference 33 = .ok (.aload_n 0, 1) := by decide +kernel
theorem dX3_difference_34 : decode cX3_difference 34 = .ok (.getfield 18, 3) := by decide +kernel
theorem dX3_difference_37 : decode cX3_difference 37 = .ok (.iload_n 1, 1) := by decide +kernel
theorem dX3_difference_38 : decode cX3_difference 38 = .ok (.iaload, 1) := by decide +kernel
theorem dX3_difference_39 : decode cX3_difference 39 = .ok (.aload_n 2, 1) := by decide +kernel
theorem dX3_difference_40 : decode cX3_difference 40 = .ok (.getfield 18, 3) := by decide +kernel
theorem dX3_difference_43 : decode cX3_difference 43 = .ok (.iload_n 1, 1) := by decide +kernel
theorem dX3_difference_44 : decode cX3_difference 44 = .ok (.iaload, 1) := by decide +kernel
theorem dX3_difference_45 : decode cX3_difference 45 = .ok (.isub, 1) := by decide +kernel
theorem dX3_difference_46 : decode cX3_difference 46 = .ok (.invokestatic 33, 3) := by decide +kernel
theorem dX3_difference_49 : decode cX3_difference 49 = .ok (.iadd, 1) := by decide +kernel
theorem dX3_difference_50 : decode cX3_difference 50 = .ok (.aload_n 0, 1) := by decide +kernel
theorem dX3_difference_51 : decode cX3_difference 51 = .ok (.getfield 21, 3) := by decide +kernel
theorem dX3_difference_54 : decode cX3_difference 54 = .ok (.iload_n 1, 1) := by decide +kernel
theorem dX3_difference_55 : decode cX3_difference 55 = .ok (.iaload, 1) := by decide +kernel
theorem dX3_difference_56 : decode cX3_difference 56 = .ok (.aload_n 2, 1) := by decide +kernel
theorem dX3_difference_57 : decode cX3_difference 57 = .ok (.getfield 21, 3) := by decide +kernel
theorem dX3_difference_60 : decode cX3_difference 60 = .ok (.iload_n 1, 1) := by decide +kernel
theorem dX3_difference_61 : decode cX3_difference 61 = .ok (.iaload, 1) := by decide +kernel
theorem dX3_difference_62 : decode cX3_difference 62 = .ok (.isub, 1) := by decide +kernel
theorem dX3_difference_63 : decode cX3_difference 63 = .ok (.invokestatic 33, 3) := by decide +kernel
theorem dX3_difference_66 : decode cX3_difference 66 = .ok (.iadd, 1) := by decide +kernel
theorem dX3_difference_67 : decode cX3_difference 67 = .ok (.ireturn, 1) := by decide +kernel
theorem dX4_init_0 : decode cX4_init 0 = .ok (.aload_n 0, 1) := by decide +kernel
theorem dX4_init_1 : decode cX4_init 1 = .ok (.invokespecial 3, 3) := by decide +kernel
theorem dX4_init_4 : decode cX4_init 4 = .ok (.aload_n 0, 1) := by decide +kernel
theorem dX4_init_5 : decode cX4_init 5 = .ok (.bipush 24, 2) := by decide +kernel
theorem dX4_init_7 : decode cX4_init 7 = .ok (.newarray .int, 2) := by decide +kernel
theorem dX4_init_9 : decode cX4_init 9 = .ok (.putfield 9, 3) := by decide +kernel
theorem dX4_init_12 : decode cX4_init 12 = .ok (.aload_n 0, 1) := by decide +kernel
theorem dX4_init_13 : decode cX4_init 13 = .ok (.bipush 24, 2) := by decide +kernel
theorem dX4_init_15 : decode cX4_init 15 = .ok (.newarray .int, 2) := by decide +kernel
theorem dX4_init_17 : decode cX4_init 17 = .ok (.putfield 15, 3) := by decide +kernel
theorem dX4_init_20 : decode cX4_init 20 = .ok (.aload_n 0, 1) := by decide +kernel
theorem dX4_init_21 : decode cX4_init 21 = .ok (.bipush 24, 2) := by decide +kernel
theorem dX4_init_23 : decode cX4_init 23 = .ok (.newarray .int, 2) := by decide +kernel
theorem dX4_init_25 : decode cX4_init 25 = .ok (.putfield 18, 3) := by decide +kernel
theorem dX4_init_28 : decode cX4_init 28 = .ok (.return_, 1) := by decide +kernel
theorem dX4_clear_0 : decode cX4_clear 0 = .ok (.aload_n 0, 1) := by decide +kernel
theorem dX4_clear_1 : decode cX4_clear 1 = .ok (.iconst 0, 1) := by decide +kernel
theorem dX4_clear_2 : decode cX4_clear 2 = .ok (.putfield 21, 3) := by decide +kernel
theorem dX4_clear_5 : decode cX4_clear 5 = .ok (.return_, 1) := by decide +kernel
theorem dX4_add_0 : decode cX4_add 0 = .ok (.aload_n 0, 1) := by decide +kernel
theorem dX4_add_1 : decode cX4_add 1 = .ok (.getfield 21, 3) := by decide +kernel
theorem dX4_add_4 : decode cX4_add 4 = .ok (.bipush 24, 2) := by decide +kernel
theorem dX4_add_6 : decode cX4_add 6 = .ok (.if_icmp .ge 23, 3) := by decide +kernel
theorem dX4_add_9 : decode cX4_add 9 = .ok (.aload_n 0, 1) := by decide +kernel
theorem dX4_add_10 : decode cX4_add 10 = .ok (.getfield 9, 3) := by decide +kernel
theorem dX4_add_13 : decode cX4_add 13 = .ok (.aload_n 0, 1) := by decide +kernel
theorem dX4_add_14 : decode cX4_add 14 = .ok (.getfield 21, 3) := by decide +kernel
theorem dX4_add_17 : decode cX4_add 17 = .ok (.iload_n 1, 1) := by decide +kernel
theorem dX4_add_18 : decode cX4_add 18 = .ok (.iastore, 1) := by decide +kernel
theorem dX4_add_19 : decode cX4_add 19 = .ok (.aload_n 0, 1) := by decide +kernel
theorem dX4_add_20 : decode cX4_add 20 = .ok (.dup, 1) := by decide +kernel
theorem dX4_add_21 : decode cX4_add 21 = .ok (.getfield 21, 3) := by decide +kernel
theorem dX4_add_24 : decode cX4_add 24 = .ok (.iconst 1, 1) := by decide +kernel
theorem dX4_add_25 : decode cX4_add 25 = .ok (.iadd, 1) := by decide +kernel
theorem dX4_add_26 : decode cX4_add 26 = .ok (.putfield 21, 3) := by decide +kernel
theorem dX4_add_29 : decode cX4_add 29 = .ok (.return_, 1) := by decide +kernel
set_option maxRecDepth 20000 in
theorem ggX4_apportion_X4_largestRemainder : GoodIn wsX4_apportion wsX4_largestRemainder := goodIn_r _ [9, 1, 4, 10, 11, 12, 13] (by decide +kernel) (by decide +kernel)
set_option maxRecDepth 20000 in
theorem gX4_apportion_X4_largestRemainder : GoodIn wsX4_apportion (wsV RX4 25 RX4 yX4_largestRemainder wsX4_largestRemainder) := goodIn_app (goodIn_of _ (by decide +kernel)) ggX4_apportion_X4_largestRemainder
theorem dX4_apportion_0 : decode cX4_apportion 0 = .ok (.iconst 0, 1) := by decide +kernel
theorem dX4_apportion_1 : decode cX4_apportion 1 = .ok (.istore_n 2, 1) := by decide +kernel
theorem dX4_apportion_2 : decode cX4_apportion 2 = .ok (.iconst 0, 1) := by decide +kernel
theorem dX4_apportion_3 : decode cX4_apportion 3 = .ok (.istore_n 3, 1) := by decide +kernel
theorem dX4_apportion_4 : decode cX4_apportion 4 = .ok (.iload_n 3, 1) := by decide +kernel
theorem dX4_apportion_5 : decode cX4_apportion 5 = .ok (.aload_n 0, 1) := by decide +kernel
theorem dX4_apportion_6 : decode cX4_apportion 6 = .ok (.getfield 21, 3) := by decide +kernel
theorem dX4_apportion_9 : decode cX4_apportion 9 = .ok (.if_icmp .ge 18, 3) := by decide +kernel
theorem dX4_apportion_12 : decode cX4_apportion 12 = .ok (.iload_n 2, 1) := by decide +kernel
theorem dX4_apportion_13 : decode cX4_apportion 13 = .ok (.aload_n 0, 1) := by decide +kernel
theorem dX4_apportion_14 : decode cX4_apportion 14 = .ok (.getfield 9, 3) := by decide +kernel
theorem dX4_apportion_17 : decode cX4_apportion 17 = .ok (.iload_n 3, 1) := by decide +kernel
theorem dX4_apportion_18 : decode cX4_apportion 18 = .ok (.iaload, 1) := by decide +kernel
theorem dX4_apportion_19 : decode cX4_apportion 19 = .ok (.iadd, 1) := by decide +kernel
theorem dX4_apportion_20 : decode cX4_apportion 20 = .ok (.istore_n 2, 1) := by decide +kernel
theorem dX4_apportion_21 : decode cX4_apportion 21 = .ok (.iinc 3 1, 3) := by decide +kernel
theorem dX4_apportion_24 : decode cX4_apportion 24 = .ok (.goto (-20), 3) := by decide +kernel
theorem dX4_apportion_27 : decode cX4_apportion 27 = .ok (.iload_n 2, 1) := by decide +kernel
theorem dX4_apportion_28 : decode cX4_apportion 28 = .ok (.ifCond .gt 4, 3) := by decide +kernel
theorem dX4_apportion_31 : decode cX4_apportion 31 = .ok (.return_, 1) := by decide +kernel
theorem dX4_apportion_32 : decode cX4_apportion 32 = .ok (.iload_n 1, 1) := by decide +kernel
theorem dX4_apportion_33 : decode cX4_apportion 33 = .ok (.istore_n 3, 1) := by decide +kernel
theorem dX4_apportion_34 : decode cX4_apportion 34 = .ok (.iconst 0, 1) := by decide +kernel
theorem dX4_apportion_35 : decode cX4_apportion 35 = .ok (.istore 4, 2) := by decide +kernel
theorem dX4_apportion_37 : decode cX4_apportion 37 = .ok (.iload 4, 2) := by decide +kernel
theorem dX4_apportion_39 : decode cX4_apportion 39 = .ok (.aload_n 0, 1) := by decide +kernel
theorem dX4_apportion_40 : decode cX4_apportion 40 = .ok (.getfield 21, 3) := by decide +kernel
theorem dX4_apportion_43 : decode cX4_apportion 43 = .ok (.if_icmp .ge 55, 3) := by decide +kernel
theorem dX4_apportion_46 : decode cX4_apportion 46 = .ok (.aload_n 0, 1) := by decide +kernel
theorem dX4_apportion_47 : decode cX4_apportion 47 = .ok (.getfield 18, 3) := by decide +kernel
theorem dX4_apportion_50 : decode cX4_apportion 50 = .ok (.iload 4, 2) := by decide +kernel
theorem dX4_apportion_52 : decode cX4_apportion 52 = .ok (.aload_n 0, 1) := by decide +kernel
theorem dX4_apportion_53 : decode cX4_apportion 53 = .ok (.getfield 9, 3) := by decide +kernel
theorem dX4_apportion_56 : decode cX4_apportion 56 = .ok (.iload 4, 2) := by decide +kernel
theorem dX4_apportion_58 : decode cX4_apportion 58 = .ok (.iaload, 1) := by decide +kernel
theorem dX4_apportion_59 : decode cX4_apportion 59 = .ok (.iload_n 1, 1) := by decide +kernel
theorem dX4_apportion_60 : decode cX4_apportion 60 = .ok (.imul, 1) := by decide +kernel
theorem dX4_apportion_61 : decode cX4_apportion 61 = .ok (.iload_n 2, 1) := by decide +kernel
theorem dX4_apportion_62 : decode cX4_apportion 62 = .ok (.idiv, 1) := by decide +kernel
theorem dX4_apportion_63 : decode cX4_apportion 63 = .ok (.iastore, 1) := by decide +kernel
theorem dX4_apportion_64 : decode cX4_apportion 64 = .ok (.aload_n 0, 1) := by decide +kernel
theorem dX4_apportion_65 : decode cX4_apportion 65 = .ok (.getfield 15, 3) := by decide +kernel
theorem dX4_apportion_68 : decode cX4_apportion 68 = .ok (.iload 4, 2) := by decide +kernel
theorem dX4_apportion_70 : decode cX4_apportion 70 = .ok (.aload_n 0, 1) := by decide +kernel
theorem dX4_apportion_71 : decode cX4_apportion 71 = .ok (.getfield 9, 3) := by decide +kernel
theorem dX4_apportion_74 : decode cX4_apportion 74 = .ok (.iload 4, 2) := by decide +kernel
theorem dX4_apportion_76 : decode cX4_apportion 76 = .ok (.iaload, 1) := by decide +kernel
theorem dX4_apportion_77 : decode cX4_apportion 77 = .ok (.iload_n 1, 1) := by decide +kernel
theorem dX4_apportion_78 : decode cX4_apportion 78 = .ok (.imul, 1) := by decide +kernel
theorem dX4_apportion_79 : decode cX4_apportion 79 = .ok (.iload_n 2, 1) := by decide +kernel
theorem dX4_apportion_80 : decode cX4_apportion 80 = .ok (.irem, 1) := by decide +kernel
theorem dX4_apportion_81 : decode cX4_apportion 81 = .ok (.iastore, 1) := by decide +kernel
theorem dX4_apportion_82 : decode cX4_apportion 82 = .ok (.iload_n 3, 1) := by decide +kernel
theorem dX4_apportion_83 : decode cX4_apportion 83 = .ok (.aload_n 0, 1) := by decide +kernel
theorem dX4_apportion_84 : decode cX4_apportion 84 = .ok (.getfield 18, 3) := by decide +kernel
theorem dX4_apportion_87 : decode cX4_apportion 87 = .ok (.iload 4, 2) := by decide +kernel
theorem dX4_apportion_89 : decode cX4_apportion 89 = .ok (.iaload, 1) := by decide +kernel
theorem dX4_apportion_90 : decode cX4_apportion 90 = .ok (.isub, 1) := by decide +kernel
theorem dX4_apportion_91 : decode cX4_apportion 91 = .ok (.istore_n 3, 1) := by decide +kernel
theorem dX4_apportion_92 : decode cX4_apportion 92 = .ok (.iinc 4 1, 3) := by decide +kernel
theorem dX4_apportion_95 : decode cX4_apportion 95 = .ok (.goto (-58), 3) := by decide +kernel
theorem dX4_apportion_98 : decode cX4_apportion 98 = .ok (.iconst 0, 1) := by decide +kernel
theorem dX4_apportion_99 : decode cX4_apportion 99 = .ok (.istore 4, 2) := by decide +kernel
theorem dX4_apportion_101 : decode cX4_apportion 101 = .ok (.iload 4, 2) := by decide +kernel
theorem dX4_apportion_103 : decode cX4_apportion 103 = .ok (.iload_n 3, 1) := by decide +kernel
theorem dX4_apportion_104 : decode cX4_apportion 104 = .ok (.if_icmp .ge 43, 3) := by decide +kernel
theorem dX4_apportion_107 : decode cX4_apportion 107 = .ok (.iload 4, 2) := by decide +kernel
theorem dX4_apportion_109 : decode cX4_apportion 109 = .ok (.aload_n 0, 1) := by decide +kernel
theorem dX4_apportion_110 : decode cX4_apportion 110 = .ok (.getfield 21, 3) := by decide +kernel
theorem dX4_apportion_113 : decode cX4_apportion 113 = .ok (.if_icmp .ge 34, 3) := by decide +kernel
theorem dX4_apportion_116 : decode cX4_apportion 116 = .ok (.aload_n 0, 1) := by decide +kernel
theorem dX4_apportion_117 : decode cX4_apportion 117 = .ok (.invokevirtual 25, 3) := by decide +kernel
theorem dX4_apportion_120 : decode cX4_apportion 120 = .ok (.istore 5, 2) := by decide +kernel
theorem dX4_apportion_122 : decode cX4_apportion 122 = .ok (.aload_n 0, 1) := by decide +kernel
theorem dX4_apportion_123 : decode cX4_apportion 123 = .ok (.getfield 18, 3) := by decide +kernel
theorem dX4_apportion_126 : decode cX4_apportion 126 = .ok (.iload 5, 2) := by decide +kernel
theorem dX4_apportion_128 : decode cX4_apportion 128 = .ok (.dup2, 1) := by decide +kernel
theorem dX4_apportion_129 : decode cX4_apportion 129 = .ok (.iaload, 1) := by decide +kernel
theorem dX4_apportion_130 : decode cX4_apportion 130 = .ok (.iconst 1, 1) := by decide +kernel
theorem dX4_apportion_131 : decode cX4_apportion 131 = .ok (.iadd, 1) := by decide +kernel
theorem dX4_apportion_132 : decode cX4_apportion 132 = .ok (.iastore, 1) := by decide +kernel
theorem dX4_apportion_133 : decode cX4_apportion 133 = .ok (.aload_n 0, 1) := by decide +kernel
theorem dX4_apportion_134 : decode cX4_apportion 134 = .ok (.getfield 15, 3) := by decide +kernel
theorem dX4_apportion_137 : decode cX4_apportion 137 = .ok (.iload 5, 2) := by decide +kernel
theorem dX4_apportion_139 : decode cX4_apportion 139 = .ok (.iconst (-1), 1) := by decide +kernel
theorem dX4_apportion_140 : decode cX4_apportion 140 = .ok (.iastore, 1) := by decide +kernel
theorem dX4_apportion_141 : decode cX4_apportion 141 = .ok (.iinc 4 1, 3) := by decide +kernel
theorem dX4_apportion_144 : decode cX4_apportion 144 = .ok (.goto (-43), 3) := by decide +kernel
theorem dX4_apportion_147 : decode cX4_apportion 147 = .ok (.return_, 1) := by decide +kernel
theorem dX4_largestRemainder_0 : decode cX4_largestRemainder 0 = .ok (.iconst 0, 1) := by decide +kernel
theorem dX4_largestRemainder_1 : decode cX4_largestRemainder 1 = .ok (.istore_n 1, 1) := by decide +kernel
theorem dX4_largestRemainder_2 : decode cX4_largestRemainder 2 = .ok (.iconst 1, 1) := by decide +kernel
theorem dX4_largestRemainder_3 : decode cX4_largestRemainder 3 = .ok (.istore_n 2, 1) := by decide +kernel
theorem dX4_largestRemainder_4 : decode cX4_largestRemainder 4 = .ok (.iload_n 2, 1) := by decide +kernel
theorem dX4_largestRemainder_5 : decode cX4_largestRemainder 5 = .ok (.aload_n 0, 1) := by decide +kernel
theorem dX4_largestRemainder_6 : decode cX4_largestRemainder 6 = .ok (.getfield 21, 3) := by decide +kernel
theorem dX4_largestRemainder_9 : decode cX4_largestRemainder 9 = .ok (.if_icmp .ge 26, 3) := by decide +kernel
theorem dX4_largestRemainder_12 : decode cX4_largestRemainder 12 = .ok (.aload_n 0, 1) := by decide +kernel
theorem dX4_largestRemainder_13 : decode cX4_largestRemainder 13 = .ok (.getfield 15, 3) := by decide +kernel
end
section
theorem dX4_largestRemainder_16 : decode cX4_largestRemainder 16 = .ok (.iload_n 2, 1) := by decide +kernel
theorem dX4_largestRemainder_17 : decode cX4_largestRemainder 17 = .ok (.iaload, 1) := by decide +kernel
theorem dX4_largestRemainder_18 : decode cX4_largestRemainder 18 = .ok (.aload_n 0, 1) := by decide +kernel
theorem dX4_largestRemainder_19 : decode cX4_largestRemainder 19 = .ok (.getfield 15, 3) := by decide +kernel
theorem dX4_largestRemainder_22 : decode cX4_largestRemainder 22 = .ok (.iload_n 1, 1) := by decide +kernel
theorem dX4_largestRemainder_23 : decode cX4_largestRemainder 23 = .ok (.iaload, 1) := by decide +kernel
theorem dX4_largestRemainder_24 : decode cX4_largestRemainder 24 = .ok (.if_icmp .le 5, 3) := by decide +kernel
theorem dX4_largestRemainder_27 : decode cX4_largestRemainder 27 = .ok (.iload_n 2, 1) := by decide +kernel
theorem dX4_largestRemainder_28 : decode cX4_largestRemainder 28 = .ok (.istore_n 1, 1) := by decide +kernel
theorem dX4_largestRemainder_29 : decode cX4_largestRemainder 29 = .ok (.iinc 2 1, 3) := by decide +kernel
theorem dX4_largestRemainder_32 : decode cX4_largestRemainder 32 = .ok (.goto (-28), 3) := by decide +kernel
theorem dX4_largestRemainder_35 : decode cX4_largestRemainder 35 = .ok (.iload_n 1, 1) := by decide +kernel
theorem dX4_largestRemainder_36 : decode cX4_largestRemainder 36 = .ok (.ireturn, 1) := by decide +kernel
theorem dX5_init_0 : decode cX5_init 0 = .ok (.aload_n 0, 1) := by decide +kernel
theorem dX5_init_1 : decode cX5_init 1 = .ok (.invokespecial 3, 3) := by decide +kernel
theorem dX5_init_4 : decode cX5_init 4 = .ok (.aload_n 0, 1) := by decide +kernel
theorem dX5_init_5 : decode cX5_init 5 = .ok (.bipush 24, 2) := by decide +kernel
theorem dX5_init_7 : decode cX5_init 7 = .ok (.newarray .int, 2) := by decide +kernel
theorem dX5_init_9 : decode cX5_init 9 = .ok (.putfield 9, 3) := by decide +kernel
theorem dX5_init_12 : decode cX5_init 12 = .ok (.aload_n 0, 1) := by decide +kernel
theorem dX5_init_13 : decode cX5_init 13 = .ok (.bipush 24, 2) := by decide +kernel
theorem dX5_init_15 : decode cX5_init 15 = .ok (.newarray .int, 2) := by decide +kernel
theorem dX5_init_17 : decode cX5_init 17 = .ok (.putfield 15, 3) := by decide +kernel
theorem dX5_init_20 : decode cX5_init 20 = .ok (.aload_n 0, 1) := by decide +kernel
theorem dX5_init_21 : decode cX5_init 21 = .ok (.iconst 1, 1) := by decide +kernel
theorem dX5_init_22 : decode cX5_init 22 = .ok (.putfield 18, 3) := by decide +kernel
theorem dX5_init_25 : decode cX5_init 25 = .ok (.aload_n 0, 1) := by decide +kernel
theorem dX5_init_26 : decode cX5_init 26 = .ok (.bipush 100, 2) := by decide +kernel
theorem dX5_init_28 : decode cX5_init 28 = .ok (.putfield 22, 3) := by decide +kernel
theorem dX5_init_31 : decode cX5_init 31 = .ok (.aload_n 0, 1) := by decide +kernel
theorem dX5_init_32 : decode cX5_init 32 = .ok (.bipush 60, 2) := by decide +kernel
theorem dX5_init_34 : decode cX5_init 34 = .ok (.putfield 25, 3) := by decide +kernel
theorem dX5_init_37 : decode cX5_init 37 = .ok (.aload_n 0, 1) := by decide +kernel
theorem dX5_init_38 : decode cX5_init 38 = .ok (.iconst 0, 1) := by decide +kernel
theorem dX5_init_39 : decode cX5_init 39 = .ok (.putfield 28, 3) := by decide +kernel
theorem dX5_init_42 : decode cX5_init 42 = .ok (.aload_n 0, 1) := by decide +kernel
theorem dX5_init_43 : decode cX5_init 43 = .ok (.iconst 1, 1) := by decide +kernel
theorem dX5_init_44 : decode cX5_init 44 = .ok (.putfield 31, 3) := by decide +kernel
theorem dX5_init_47 : decode cX5_init 47 = .ok (.aload_n 0, 1) := by decide +kernel
theorem dX5_init_48 : decode cX5_init 48 = .ok (.getfield 9, 3) := by decide +kernel
theorem dX5_init_51 : decode cX5_init 51 = .ok (.iconst 0, 1) := by decide +kernel
theorem dX5_init_52 : decode cX5_init 52 = .ok (.iconst 1, 1) := by decide +kernel
theorem dX5_init_53 : decode cX5_init 53 = .ok (.iastore, 1) := by decide +kernel
theorem dX5_init_54 : decode cX5_init 54 = .ok (.aload_n 0, 1) := by decide +kernel
theorem dX5_init_55 : decode cX5_init 55 = .ok (.getfield 15, 3) := by decide +kernel
theorem dX5_init_58 : decode cX5_init 58 = .ok (.iconst 0, 1) := by decide +kernel
theorem dX5_init_59 : decode cX5_init 59 = .ok (.iconst (-1), 1) := by decide +kernel
theorem dX5_init_60 : decode cX5_init 60 = .ok (.iastore, 1) := by decide +kernel
theorem dX5_init_61 : decode cX5_init 61 = .ok (.return_, 1) := by decide +kernel
theorem dX5_copyFrom_0 : decode cX5_copyFrom 0 = .ok (.aload_n 1, 1) := by decide +kernel
theorem dX5_copyFrom_1 : decode cX5_copyFrom 1 = .ok (.getfield 9, 3) := by decide +kernel
theorem dX5_copyFrom_4 : decode cX5_copyFrom 4 = .ok (.iconst 0, 1) := by decide +kernel
theorem dX5_copyFrom_5 : decode cX5_copyFrom 5 = .ok (.aload_n 0, 1) := by decide +kernel
theorem dX5_copyFrom_6 : decode cX5_copyFrom 6 = .ok (.getfield 9, 3) := by decide +kernel
theorem dX5_copyFrom_9 : decode cX5_copyFrom 9 = .ok (.iconst 0, 1) := by decide +kernel
theorem dX5_copyFrom_10 : decode cX5_copyFrom 10 = .ok (.bipush 24, 2) := by decide +kernel
theorem dX5_copyFrom_12 : decode cX5_copyFrom 12 = .ok (.invokestatic 34, 3) := by decide +kernel
theorem dX5_copyFrom_15 : decode cX5_copyFrom 15 = .ok (.aload_n 1, 1) := by decide +kernel
theorem dX5_copyFrom_16 : decode cX5_copyFrom 16 = .ok (.getfield 15, 3) := by decide +kernel
theorem dX5_copyFrom_19 : decode cX5_copyFrom 19 = .ok (.iconst 0, 1) := by decide +kernel
theorem dX5_copyFrom_20 : decode cX5_copyFrom 20 = .ok (.aload_n 0, 1) := by decide +kernel
theorem dX5_copyFrom_21 : decode cX5_copyFrom 21 = .ok (.getfield 15, 3) := by decide +kernel
theorem dX5_copyFrom_24 : decode cX5_copyFrom 24 = .ok (.iconst 0, 1) := by decide +kernel
theorem dX5_copyFrom_25 : decode cX5_copyFrom 25 = .ok (.bipush 24, 2) := by decide +kernel
theorem dX5_copyFrom_27 : decode cX5_copyFrom 27 = .ok (.invokestatic 34, 3) := by decide +kernel
theorem dX5_copyFrom_30 : decode cX5_copyFrom 30 = .ok (.aload_n 0, 1) := by decide +kernel
theorem dX5_copyFrom_31 : decode cX5_copyFrom 31 = .ok (.aload_n 1, 1) := by decide +kernel
theorem dX5_copyFrom_32 : decode cX5_copyFrom 32 = .ok (.getfield 18, 3) := by decide +kernel
theorem dX5_copyFrom_35 : decode cX5_copyFrom 35 = .ok (.putfield 18, 3) := by decide +kernel
theorem dX5_copyFrom_38 : decode cX5_copyFrom 38 = .ok (.aload_n 0, 1) := by decide +kernel
theorem dX5_copyFrom_39 : decode cX5_copyFrom 39 = .ok (.aload_n 1, 1) := by decide +kernel
theorem dX5_copyFrom_40 : decode cX5_copyFrom 40 = .ok (.getfield 22, 3) := by decide +kernel
theorem dX5_copyFrom_43 : decode cX5_copyFrom 43 = .ok (.putfield 22, 3) := by decide +kernel
theorem dX5_copyFrom_46 : decode cX5_copyFrom 46 = .ok (.aload_n 0, 1) := by decide +kernel
theorem dX5_copyFrom_47 : decode cX5_copyFrom 47 = .ok (.aload_n 1, 1) := by decide +kernel
theorem dX5_copyFrom_48 : decode cX5_copyFrom 48 = .ok (.getfield 25, 3) := by decide +kernel
theorem dX5_copyFrom_51 : decode cX5_copyFrom 51 = .ok (.putfield 25, 3) := by decide +kernel
theorem dX5_copyFrom_54 : decode cX5_copyFrom 54 = .ok (.aload_n 0, 1) := by decide +kernel
theorem dX5_copyFrom_55 : decode cX5_copyFrom 55 = .ok (.aload_n 1, 1) := by decide +kernel
theorem dX5_copyFrom_56 : decode cX5_copyFrom 56 = .ok (.getfield 28, 3) := by decide +kernel
theorem dX5_copyFrom_59 : decode cX5_copyFrom 59 = .ok (.putfield 28, 3) := by decide +kernel
theorem dX5_copyFrom_62 : decode cX5_copyFrom 62 = .ok (.aload_n 0, 1) := by decide +kernel
theorem dX5_copyFrom_63 : decode cX5_copyFrom 63 = .ok (.aload_n 1, 1) := by decide +kernel
theorem dX5_copyFrom_64 : decode cX5_copyFrom 64 = .ok (.getfield 31, 3) := by decide +kernel
theorem dX5_copyFrom_67 : decode cX5_copyFrom 67 = .ok (.putfield 31, 3) := by decide +kernel
theorem dX5_copyFrom_70 : decode cX5_copyFrom 70 = .ok (.return_, 1) := by decide +kernel
theorem dX5_has_0 : decode cX5_has 0 = .ok (.iload_n 1, 1) := by decide +kernel
theorem dX5_has_1 : decode cX5_has 1 = .ok (.ifCond .lt 15, 3) := by decide +kernel
theorem dX5_has_4 : decode cX5_has 4 = .ok (.iload_n 1, 1) := by decide +kernel
theorem dX5_has_5 : decode cX5_has 5 = .ok (.aload_n 0, 1) := by decide +kernel
theorem dX5_has_6 : decode cX5_has 6 = .ok (.getfield 18, 3) := by decide +kernel
theorem dX5_has_9 : decode cX5_has 9 = .ok (.if_icmp .ge 7, 3) := by decide +kernel
theorem dX5_has_12 : decode cX5_has 12 = .ok (.iconst 1, 1) := by decide +kernel
theorem dX5_has_13 : decode cX5_has 13 = .ok (.goto 4, 3) := by decide +kernel
theorem dX5_has_16 : decode cX5_has 16 = .ok (.iconst 0, 1) := by decide +kernel
theorem dX5_has_17 : decode cX5_has 17 = .ok (.ireturn, 1) := by decide +kernel
set_option maxRecDepth 20000 in
theorem ggX5_isWithin_X5_has : GoodIn wsX5_isWithin wsX5_has := goodIn_r _ [6, 7, 8, 9, 10, 11, 12, 13, 14] (by decide +kernel) (by decide +kernel)
set_option maxRecDepth 20000 in
theorem gX5_isWithin_X5_has : GoodIn wsX5_isWithin (wsV RX5 40 RX5 yX5_has wsX5_has) := goodIn_app (goodIn_of _ (by decide +kernel)) ggX5_isWithin_X5_has
theorem dX5_isWithin_0 : decode cX5_isWithin 0 = .ok (.iload_n 1, 1) := by decide +kernel
theorem dX5_isWithin_1 : decode cX5_isWithin 1 = .ok (.istore_n 3, 1) := by decide +kernel
theorem dX5_isWithin_2 : decode cX5_isWithin 2 = .ok (.iconst 0, 1) := by decide +kernel
theorem dX5_isWithin_3 : decode cX5_isWithin 3 = .ok (.istore 4, 2) := by decide +kernel
theorem dX5_isWithin_5 : decode cX5_isWithin 5 = .ok (.iload 4, 2) := by decide +kernel
theorem dX5_isWithin_7 : decode cX5_isWithin 7 = .ok (.bipush 24, 2) := by decide +kernel
theorem dX5_isWithin_9 : decode cX5_isWithin 9 = .ok (.if_icmp .ge 31, 3) := by decide +kernel
theorem dX5_isWithin_12 : decode cX5_isWithin 12 = .ok (.aload_n 0, 1) := by decide +kernel
theorem dX5_isWithin_13 : decode cX5_isWithin 13 = .ok (.iload_n 3, 1) := by decide +kernel
theorem dX5_isWithin_14 : decode cX5_isWithin 14 = .ok (.invokevirtual 40, 3) := by decide +kernel
theorem dX5_isWithin_17 : decode cX5_isWithin 17 = .ok (.ifCond .eq 23, 3) := by decide +kernel
theorem dX5_isWithin_20 : decode cX5_isWithin 20 = .ok (.iload_n 3, 1) := by decide +kernel
theorem dX5_isWithin_21 : decode cX5_isWithin 21 = .ok (.iload_n 2, 1) := by decide +kernel
theorem dX5_isWithin_22 : decode cX5_isWithin 22 = .ok (.if_icmp .ne 5, 3) := by decide +kernel
theorem dX5_isWithin_25 : decode cX5_isWithin 25 = .ok (.iconst 1, 1) := by decide +kernel
theorem dX5_isWithin_26 : decode cX5_isWithin 26 = .ok (.ireturn, 1) := by decide +kernel
theorem dX5_isWithin_27 : decode cX5_isWithin 27 = .ok (.aload_n 0, 1) := by decide +kernel
theorem dX5_isWithin_28 : decode cX5_isWithin 28 = .ok (.getfield 15, 3) := by decide +kernel
theorem dX5_isWithin_31 : decode cX5_isWithin 31 = .ok (.iload_n 3, 1) := by decide +kernel
theorem dX5_isWithin_32 : decode cX5_isWithin 32 = .ok (.iaload, 1) := by decide +kernel
theorem dX5_isWithin_33 : decode cX5_isWithin 33 = .ok (.istore_n 3, 1) := by decide +kernel
theorem dX5_isWithin_34 : decode cX5_isWithin 34 = .ok (.iinc 4 1, 3) := by decide +kernel
theorem dX5_isWithin_37 : decode cX5_isWithin 37 = .ok (.goto (-32), 3) := by decide +kernel
theorem dX5_isWithin_40 : decode cX5_isWithin 40 = .ok (.iconst 0, 1) := by decide +kernel
theorem dX5_isWithin_41 : decode cX5_isWithin 41 = .ok (.ireturn, 1) := by decide +kernel
theorem dX5_append_0 : decode cX5_append 0 = .ok (.aload_n 0, 1) := by decide +kernel
theorem dX5_append_1 : decode cX5_append 1 = .ok (.getfield 18, 3) := by decide +kernel
theorem dX5_append_4 : decode cX5_append 4 = .ok (.bipush 24, 2) := by decide +kernel
theorem dX5_append_6 : decode cX5_append 6 = .ok (.if_icmp .ge 33, 3) := by decide +kernel
theorem dX5_append_9 : decode cX5_append 9 = .ok (.aload_n 0, 1) := by decide +kernel
theorem dX5_append_10 : decode cX5_append 10 = .ok (.getfield 9, 3) := by decide +kernel
theorem dX5_append_13 : decode cX5_append 13 = .ok (.aload_n 0, 1) := by decide +kernel
theorem dX5_append_14 : decode cX5_append 14 = .ok (.getfield 18, 3) := by decide +kernel
theorem dX5_append_17 : decode cX5_append 17 = .ok (.iload_n 2, 1) := by decide +kernel
theorem dX5_append_18 : decode cX5_append 18 = .ok (.iastore, 1) := by decide +kernel
theorem dX5_append_19 : decode cX5_append 19 = .ok (.aload_n 0, 1) := by decide +kernel
theorem dX5_append_20 : decode cX5_append 20 = .ok (.getfield 15, 3) := by decide +kernel
theorem dX5_append_23 : decode cX5_append 23 = .ok (.aload_n 0, 1) := by decide +kernel
theorem dX5_append_24 : decode cX5_append 24 = .ok (.getfield 18, 3) := by decide +kernel
theorem dX5_append_27 : decode cX5_append 27 = .ok (.iload_n 1, 1) := by decide +kernel
theorem dX5_append_28 : decode cX5_append 28 = .ok (.iastore, 1) := by decide +kernel
theorem dX5_append_29 : decode cX5_append 29 = .ok (.aload_n 0, 1) := by decide +kernel
theorem dX5_append_30 : decode cX5_append 30 = .ok (.dup, 1) := by decide +kernel
theorem dX5_append_31 : decode cX5_append 31 = .ok (.getfield 18, 3) := by decide +kernel
theorem dX5_append_34 : decode cX5_append 34 = .ok (.iconst 1, 1) := by decide +kernel
theorem dX5_append_35 : decode cX5_append 35 = .ok (.iadd, 1) := by decide +kernel
theorem dX5_append_36 : decode cX5_append 36 = .ok (.putfield 18, 3) := by decide +kernel
theorem dX5_append_39 : decode cX5_append 39 = .ok (.return_, 1) := by decide +kernel
set_option maxRecDepth 20000 in
theorem ggX5_takeOut_X5_has : GoodIn wsX5_takeOut wsX5_has := goodIn_r _ [8, 1, 9, 10, 11, 12, 13, 14, 15] (by decide +kernel) (by decide +kernel)
set_option maxRecDepth 20000 in
theorem gX5_takeOut_X5_has : GoodIn wsX5_takeOut (wsV RX5 40 RX5 yX5_has wsX5_has) := goodIn_app (goodIn_of _ (by decide +kernel)) ggX5_takeOut_X5_has
theorem dX5_takeOut_0 : decode cX5_takeOut 0 = .ok (.aload_n 0, 1) := by decide +kernel
theorem dX5_takeOut_1 : decode cX5_takeOut 1 = .ok (.iload_n 1, 1) := by decide +kernel
theorem dX5_takeOut_2 : decode cX5_takeOut 2 = .ok (.invokevirtual 40, 3) := by decide +kernel
theorem dX5_takeOut_5 : decode cX5_takeOut 5 = .ok (.ifCond .eq 7, 3) := by decide +kernel
theorem dX5_takeOut_8 : decode cX5_takeOut 8 = .ok (.iload_n 1, 1) := by decide +kernel
theorem dX5_takeOut_9 : decode cX5_takeOut 9 = .ok (.ifCond .ne 4, 3) := by decide +kernel
theorem dX5_takeOut_12 : decode cX5_takeOut 12 = .ok (.return_, 1) := by decide +kernel
theorem dX5_takeOut_13 : decode cX5_takeOut 13 = .ok (.iload_n 1, 1) := by decide +kernel
theorem dX5_takeOut_14 : decode cX5_takeOut 14 = .ok (.iconst 1, 1) := by decide +kernel
theorem dX5_takeOut_15 : decode cX5_takeOut 15 = .ok (.iadd, 1) := by decide +kernel
theorem dX5_takeOut_16 : decode cX5_takeOut 16 = .ok (.istore_n 2, 1) := by decide +kernel
theorem dX5_takeOut_17 : decode cX5_takeOut 17 = .ok (.iload_n 2, 1) := by decide +kernel
theorem dX5_takeOut_18 : decode cX5_takeOut 18 = .ok (.aload_n 0, 1) := by decide +kernel
theorem dX5_takeOut_19 : decode cX5_takeOut 19 = .ok (.getfield 18, 3) := by decide +kernel
theorem dX5_takeOut_22 : decode cX5_takeOut 22 = .ok (.if_icmp .ge 37, 3) := by decide +kernel
theorem dX5_takeOut_25 : decode cX5_takeOut 25 = .ok (.aload_n 0, 1) := by decide +kernel
theorem dX5_takeOut_26 : decode cX5_takeOut 26 = .ok (.getfield 9, 3) := by decide +kernel
theorem dX5_takeOut_29 : decode cX5_takeOut 29 = .ok (.iload_n 2, 1) := by decide +kernel
theorem dX5_takeOut_30 : decode cX5_takeOut 30 = .ok (.iconst 1, 1) := by decide +kernel
theorem dX5_takeOut_31 : decode cX5_takeOut 31 = .ok (.isub, 1) := by decide +kernel
theorem dX5_takeOut_32 : decode cX5_takeOut 32 = .ok (.aload_n 0, 1) := by decide +kernel
theorem dX5_takeOut_33 : decode cX5_takeOut 33 = .ok (.getfield 9, 3) := by decide +kernel
theorem dX5_takeOut_36 : decode cX5_takeOut 36 = .ok (.iload_n 2, 1) := by decide +kernel
theorem dX5_takeOut_37 : decode cX5_takeOut 37 = .ok (.iaload, 1) := by decide +kernel
theorem dX5_takeOut_38 : decode cX5_takeOut 38 = .ok (.iastore, 1) := by decide +kernel
theorem dX5_takeOut_39 : decode cX5_takeOut 39 = .ok (.aload_n 0, 1) := by decide +kernel
theorem dX5_takeOut_40 : decode cX5_takeOut 40 = .ok (.getfield 15, 3) := by decide +kernel
theorem dX5_takeOut_43 : decode cX5_takeOut 43 = .ok (.iload_n 2, 1) := by decide +kernel
theorem dX5_takeOut_44 : decode cX5_takeOut 44 = .ok (.iconst 1, 1) := by decide +kernel
theorem dX5_takeOut_45 : decode cX5_takeOut 45 = .ok (.isub, 1) := by decide +kernel
theorem dX5_takeOut_46 : decode cX5_takeOut 46 = .ok (.aload_n 0, 1) := by decide +kernel
theorem dX5_takeOut_47 : decode cX5_takeOut 47 = .ok (.getfield 15, 3) := by decide +kernel
theorem dX5_takeOut_50 : decode cX5_takeOut 50 = .ok (.iload_n 2, 1) := by decide +kernel
theorem dX5_takeOut_51 : decode cX5_takeOut 51 = .ok (.iaload, 1) := by decide +kernel
theorem dX5_takeOut_52 : decode cX5_takeOut 52 = .ok (.iastore, 1) := by decide +kernel
theorem dX5_takeOut_53 : decode cX5_takeOut 53 = .ok (.iinc 2 1, 3) := by decide +kernel
theorem dX5_takeOut_56 : decode cX5_takeOut 56 = .ok (.goto (-39), 3) := by decide +kernel
theorem dX5_takeOut_59 : decode cX5_takeOut 59 = .ok (.aload_n 0, 1) := by decide +kernel
theorem dX5_takeOut_60 : decode cX5_takeOut 60 = .ok (.dup, 1) := by decide +kernel
theorem dX5_takeOut_61 : decode cX5_takeOut 61 = .ok (.getfield 18, 3) := by decide +kernel
theorem dX5_takeOut_64 : decode cX5_takeOut 64 = .ok (.iconst 1, 1) := by decide +kernel
theorem dX5_takeOut_65 : decode cX5_takeOut 65 = .ok (.isub, 1) := by decide +kernel
theorem dX5_takeOut_66 : decode cX5_takeOut 66 = .ok (.putfield 18, 3) := by decide +kernel
theorem dX5_takeOut_69 : decode cX5_takeOut 69 = .ok (.iconst 0, 1) := by decide +kernel
theorem dX5_takeOut_70 : decode cX5_takeOut 70 = .ok (.istore_n 2, 1) := by decide +kernel
theorem dX5_takeOut_71 : decode cX5_takeOut 71 = .ok (.iload_n 2, 1) := by decide +kernel
theorem dX5_takeOut_72 : decode cX5_takeOut 72 = .ok (.aload_n 0, 1) := by decide +kernel
theorem dX5_takeOut_73 : decode cX5_takeOut 73 = .ok (.getfield 18, 3) := by decide +kernel
theorem dX5_takeOut_76 : decode cX5_takeOut 76 = .ok (.if_icmp .ge 29, 3) := by decide +kernel
theorem dX5_takeOut_79 : decode cX5_takeOut 79 = .ok (.aload_n 0, 1) := by decide +kernel
theorem dX5_takeOut_80 : decode cX5_takeOut 80 = .ok (.getfield 15, 3) := by decide +kernel
theorem dX5_takeOut_83 : decode cX5_takeOut 83 = .ok (.iload_n 2, 1) := by decide +kernel
theorem dX5_takeOut_84 : decode cX5_takeOut 84 = .ok (.iaload, 1) := by decide +kernel
theorem dX5_takeOut_85 : decode cX5_takeOut 85 = .ok (.iload_n 1, 1) := by decide +kernel
theorem dX5_takeOut_86 : decode cX5_takeOut 86 = .ok (.if_icmp .le 13, 3) := by decide +kernel
theorem dX5_takeOut_89 : decode cX5_takeOut 89 = .ok (.aload_n 0, 1) := by decide +kernel
theorem dX5_takeOut_90 : decode cX5_takeOut 90 = .ok (.getfield 15, 3) := by decide +kernel
theorem dX5_takeOut_93 : decode cX5_takeOut 93 = .ok (.iload_n 2, 1) := by decide +kernel
theorem dX5_takeOut_94 : decode cX5_takeOut 94 = .ok (.dup2, 1) := by decide +kernel
theorem dX5_takeOut_95 : decode cX5_takeOut 95 = .ok (.iaload, 1) := by decide +kernel
theorem dX5_takeOut_96 : decode cX5_takeOut 96 = .ok (.iconst 1, 1) := by decide +kernel
theorem dX5_takeOut_97 : decode cX5_takeOut 97 = .ok (.isub, 1) := by decide +kernel
theorem dX5_takeOut_98 : decode cX5_takeOut 98 = .ok (.iastore, 1) := by decide +kernel
theorem dX5_takeOut_99 : decode cX5_takeOut 99 = .ok (.iinc 2 1, 3) := by decide +kernel
theorem dX5_takeOut_102 : decode cX5_takeOut 102 = .ok (.goto (-31), 3) := by decide +kernel
theorem dX5_takeOut_105 : decode cX5_takeOut 105 = .ok (.return_, 1) := by decide +kernel
set_option maxRecDepth 20000 in
theorem ggX6_init_X5_init : GoodIn wsX6_init wsX5_init := goodIn_r _ [10, 11, 2, 3, 12, 13, 14, 15, 16, 17, 18, 19, 23, 24, 25, 26, 27, 28, 29] (by decide +kernel) (by decide +kernel)
set_option maxRecDepth 20000 in
theorem gX6_init_X5_init : GoodIn wsX6_init (wsX5_init) := ggX6_init_X5_init
theorem dX6_init_0 : decode cX6_init 0 = .ok (.aload_n 0, 1) := by decide +kernel
theorem dX6_init_1 : decode cX6_init 1 = .ok (.invokespecial 3, 3) := by decide +kernel
theorem dX6_init_4 : decode cX6_init 4 = .ok (.aload_n 0, 1) := by decide +kernel
theorem dX6_init_5 : decode cX6_init 5 = .ok (.iconst 4, 1) := by decide +kernel
theorem dX6_init_6 : decode cX6_init 6 = .ok (.anewarray 9, 3) := by decide +kernel
theorem dX6_init_9 : decode cX6_init 9 = .ok (.putfield 11, 3) := by decide +kernel
theorem dX6_init_12 : decode cX6_init 12 = .ok (.iconst 0, 1) := by decide +kernel
theorem dX6_init_13 : decode cX6_init 13 = .ok (.istore_n 1, 1) := by decide +kernel
theorem dX6_init_14 : decode cX6_init 14 = .ok (.iload_n 1, 1) := by decide +kernel
theorem dX6_init_15 : decode cX6_init 15 = .ok (.iconst 4, 1) := by decide +kernel
theorem dX6_init_16 : decode cX6_init 16 = .ok (.if_icmp .ge 22, 3) := by decide +kernel
theorem dX6_init_19 : decode cX6_init 19 = .ok (.aload_n 0, 1) := by decide +kernel
theorem dX6_init_20 : decode cX6_init 20 = .ok (.getfield 11, 3) := by decide +kernel
theorem dX6_init_23 : decode cX6_init 23 = .ok (.iload_n 1, 1) := by decide +kernel
theorem dX6_init_24 : decode cX6_init 24 = .ok (.new 9, 3) := by decide +kernel
theorem dX6_init_27 : decode cX6_init 27 = .ok (.dup, 1) := by decide +kernel
theorem dX6_init_28 : decode cX6_init 28 = .ok (.invokespecial 17, 3) := by decide +kernel
theorem dX6_init_31 : decode cX6_init 31 = .ok (.aastore, 1) := by decide +kernel
theorem dX6_init_32 : decode cX6_init 32 = .ok (.iinc 1 1, 3) := by decide +kernel
theorem dX6_init_35 : decode cX6_init 35 = .ok (.goto (-21), 3) := by decide +kernel
theorem dX6_init_38 : decode cX6_init 38 = .ok (.return_, 1) := by decide +kernel
set_option maxRecDepth 20000 in
theorem ggX6_push_X5_copyFrom : GoodIn wsX6_push wsX5_copyFrom := goodIn_r _ [8, 9, 10, 11, 12, 13, 14, 15, 16, 17, 18, 19, 23, 24, 25, 26, 27, 28, 29] (by decide +kernel) (by decide +kernel)
set_option maxRecDepth 20000 in
theorem gX6_push_X5_copyFrom : GoodIn wsX6_push (wsV RX6 22 RX5 yX5_copyFrom wsX5_copyFrom) := goodIn_app (goodIn_of _ (by decide +kernel)) ggX6_push_X5_copyFrom
theorem dX6_push_0 : decode cX6_push 0 = .ok (.aload_n 0, 1) := by decide +kernel
theorem dX6_push_1 : decode cX6_push 1 = .ok (.getfield 11, 3) := by decide +kernel
theorem dX6_push_4 : decode cX6_push 4 = .ok (.aload_n 0, 1) := by decide +kernel
theorem dX6_push_5 : decode cX6_push 5 = .ok (.getfield 18, 3) := by decide +kernel
theorem dX6_push_8 : decode cX6_push 8 = .ok (.aaload, 1) := by decide +kernel
theorem dX6_push_9 : decode cX6_push 9 = .ok (.aload_n 1, 1) := by decide +kernel
theorem dX6_push_10 : decode cX6_push 10 = .ok (.invokevirtual 22, 3) := by decide +kernel
theorem dX6_push_13 : decode cX6_push 13 = .ok (.aload_n 0, 1) := by decide +kernel
theorem dX6_push_14 : decode cX6_push 14 = .ok (.aload_n 0, 1) := by decide +kernel
theorem dX6_push_15 : decode cX6_push 15 = .ok (.getfield 18, 3) := by decide +kernel
theorem dX6_push_18 : decode cX6_push 18 = .ok (.iconst 1, 1) := by decide +kernel
theorem dX6_push_19 : decode cX6_push 19 = .ok (.iadd, 1) := by decide +kernel
theorem dX6_push_20 : decode cX6_push 20 = .ok (.iconst 4, 1) := by decide +kernel
theorem dX6_push_21 : decode cX6_push 21 = .ok (.if_icmp .ge 12, 3) := by decide +kernel
theorem dX6_push_24 : decode cX6_push 24 = .ok (.aload_n 0, 1) := by decide +kernel
theorem dX6_push_25 : decode cX6_push 25 = .ok (.getfield 18, 3) := by decide +kernel
theorem dX6_push_28 : decode cX6_push 28 = .ok (.iconst 1, 1) := by decide +kernel
theorem dX6_push_29 : decode cX6_push 29 = .ok (.iadd, 1) := by decide +kernel
theorem dX6_push_30 : decode cX6_push 30 = .ok (.goto 4, 3) := by decide +kernel
theorem dX6_push_33 : decode cX6_push 33 = .ok (.iconst 0, 1) := by decide +kernel
theorem dX6_push_34 : decode cX6_push 34 = .ok (.putfield 18, 3) := by decide +kernel
theorem dX6_push_37 : decode cX6_push 37 = .ok (.aload_n 0, 1) := by decide +kernel
theorem dX6_push_38 : decode cX6_push 38 = .ok (.aload_n 0, 1) := by decide +kernel
theorem dX6_push_39 : decode cX6_push 39 = .ok (.getfield 26, 3) := by decide +kernel
theorem dX6_push_42 : decode cX6_push 42 = .ok (.iconst 4, 1) := by decide +kernel
theorem dX6_push_43 : decode cX6_push 43 = .ok (.if_icmp .ge 12, 3) := by decide +kernel
theorem dX6_push_46 : decode cX6_push 46 = .ok (.aload_n 0, 1) := by decide +kernel
theorem dX6_push_47 : decode cX6_push 47 = .ok (.getfield 26, 3) := by decide +kernel
theorem dX6_push_50 : decode cX6_push 50 = .ok (.iconst 1, 1) := by decide +kernel
theorem dX6_push_51 : decode cX6_push 51 = .ok (.iadd, 1) := by decide +kernel
theorem dX6_push_52 : decode cX6_push 52 = .ok (.goto 4, 3) := by decide +kernel
theorem dX6_push_55 : decode cX6_push 55 = .ok (.iconst 4, 1) := by decide +kernel
theorem dX6_push_56 : decode cX6_push 56 = .ok (.putfield 26, 3) := by decide +kernel
theorem dX6_push_59 : decode cX6_push 59 = .ok (.return_, 1) := by decide +kernel
set_option maxRecDepth 20000 in
theorem ggX6_popInto_X5_copyFrom : GoodIn wsX6_popInto wsX5_copyFrom := goodIn_r _ [8, 9, 10, 11, 12, 13, 14, 15, 16, 17, 18, 19, 23, 24, 25, 26, 27, 28, 29] (by decide +kernel) (by decide +kernel)
set_option maxRecDepth 20000 in
theorem gX6_popInto_X5_copyFrom : GoodIn wsX6_popInto (wsV RX6 22 RX5 yX5_copyFrom wsX5_copyFrom) := goodIn_app (goodIn_of _ (by decide +kernel)) ggX6_popInto_X5_copyFrom
theorem dX6_popInto_0 : decode cX6_popInto 0 = .ok (.aload_n 0, 1) := by decide +kernel
theorem dX6_popInto_1 : decode cX6_popInto 1 = .ok (.getfield 26, 3) := by decide +kernel
theorem dX6_popInto_4 : decode cX6_popInto 4 = .ok (.ifCond .le 47, 3) := by decide +kernel
theorem dX6_popInto_7 : decode cX6_popInto 7 = .ok (.aload_n 0, 1) := by decide +kernel
theorem dX6_popInto_8 : decode cX6_popInto 8 = .ok (.aload_n 0, 1) := by decide +kernel
theorem dX6_popInto_9 : decode cX6_popInto 9 = .ok (.getfield 18, 3) := by decide +kernel
theorem dX6_popInto_12 : decode cX6_popInto 12 = .ok (.ifCond .le 12, 3) := by decide +kernel
theorem dX6_popInto_15 : decode cX6_popInto 15 = .ok (.aload_n 0, 1) := by decide +kernel
theorem dX6_popInto_16 : decode cX6_popInto 16 = .ok (.getfield 18, 3) := by decide +kernel
theorem dX6_popInto_19 : decode cX6_popInto 19 = .ok (.iconst 1, 1) := by decide +kernel
theorem dX6_popInto_20 : decode cX6_popInto 20 = .ok (.isub, 1) := by decide +kernel
theorem dX6_popInto_21 : decode cX6_popInto 21 = .ok (.goto 4, 3) := by decide +kernel
theorem dX6_popInto_24 : decode cX6_popInto 24 = .ok (.iconst 3, 1) := by decide +kernel
theorem dX6_popInto_25 : decode cX6_popInto 25 = .ok (.putfield 18, 3) := by decide +kernel
theorem dX6_popInto_28 : decode cX6_popInto 28 = .ok (.aload_n 0, 1) := by decide +kernel
theorem dX6_popInto_29 : decode cX6_popInto 29 = .ok (.dup, 1) := by decide +kernel
theorem dX6_popInto_30 : decode cX6_popInto 30 = .ok (.getfield 26, 3) := by decide +kernel
theorem dX6_popInto_33 : decode cX6_popInto 33 = .ok (.iconst 1, 1) := by decide +kernel
theorem dX6_popInto_34 : decode cX6_popInto 34 = .ok (.isub, 1) := by decide +kernel
theorem dX6_popInto_35 : decode cX6_popInto 35 = .ok (.putfield 26, 3) := by decide +kernel
theorem dX6_popInto_38 : decode cX6_popInto 38 = .ok (.aload_n 1, 1) := by decide +kernel
theorem dX6_popInto_39 : decode cX6_popInto 39 = .ok (.aload_n 0, 1) := by decide +kernel
theorem dX6_popInto_40 : decode cX6_popInto 40 = .ok (.getfield 11, 3) := by decide +kernel
theorem dX6_popInto_43 : decode cX6_popInto 43 = .ok (.aload_n 0, 1) := by decide +kernel
theorem dX6_popInto_44 : decode cX6_popInto 44 = .ok (.getfield 18, 3) := by decide +kernel
theorem dX6_popInto_47 : decode cX6_popInto 47 = .ok (.aaload, 1) := by decide +kernel
theorem dX6_popInto_48 : decode cX6_popInto 48 = .ok (.invokevirtual 22, 3) := by decide +kernel
theorem dX6_popInto_51 : decode cX6_popInto 51 = .ok (.return_, 1) := by decide +kernel
set_option maxRecDepth 20000 in
theorem ggX7_init_X5_init : GoodIn wsX7_init wsX5_init := goodIn_r _ [20, 21, 2, 3, 22, 23, 24, 25, 26, 27, 28, 29, 237, 238, 239, 240, 241, 242, 243] (by decide +kernel) (by decide +kernel)
set_option maxRecDepth 20000 in
theorem gX7_init_X5_init : GoodIn wsX7_init (wsX5_init) := ggX7_init_X5_init
set_option maxRecDepth 20000 in
theorem ggX7_init_X1_init : GoodIn wsX7_init wsX1_init := goodIn_r _ [31, 32, 2, 3, 22, 33, 34, 35, 36, 37, 38, 39, 40, 41, 42, 43, 44, 45, 46, 47, 48, 49, 50, 51, 52, 53, 54, 55, 56, 57, 58, 59, 60, 61, 62, 63, 64, 65, 66, 67, 68, 69, 70, 71, 72, 73, 74, 75, 76, 77, 78, 79, 252, 253, 254, 255, 256, 257, 258, 259, 263, 264, 265, 266, 267, 268, 269, 270, 271, 272, 273, 274, 275, 276, 277, 278, 279, 280, 281, 282] (by decide +kernel) (by decide +kernel)
set_option maxRecDepth 20000 in
theorem gX7_init_X1_init_n18 : GoodIn wsX7_init (wsX1_init) := ggX7_init_X1_init
set_option maxRecDepth 20000 in
theorem ggX7_init_X6_init : GoodIn wsX7_init wsX6_init := goodIn_r _ [82, 83, 2, 3, 84, 85, 5, 6, 86, 19, 20, 21, 22, 23, 24, 25, 26, 27, 28, 29, 260, 261, 262, 237, 238, 239, 240, 241, 242, 243] (by decide +kernel) (by decide +kernel)
set_option maxRecDepth 20000 in
theorem gX7_init_X6_init : GoodIn wsX7_init (wsX6_init) := ggX7_init_X6_init
set_option maxRecDepth 20000 in
theorem ggX7_init_X1_arrange : GoodIn wsX7_init wsX1_arrange := goodIn_r _ [90, 40, 91, 92, 36, 93, 41, 94, 95, 96, 10, 97, 34, 42, 98, 43, 99, 100, 101, 102, 33, 103, 104, 105, 106, 107, 108, 109, 110, 39, 111, 51, 52, 53, 54, 112, 113, 114, 115, 116, 47, 117, 118, 119, 120, 121, 122, 123, 124, 46, 125, 126, 63, 127, 128, 129, 62, 130, 131, 132, 133, 134, 135, 136, 137, 138, 139, 140, 141, 142, 143, 144, 145, 146, 58, 59, 147, 148, 149, 150, 64, 151, 152, 153, 154, 155, 156, 157, 158, 68, 159, 160, 161, 162, 67, 163, 164, 165, 166, 167, 168, 77, 169, 170, 171, 172, 79, 78, 173, 174, 175, 176, 177, 178, 179, 180, 181, 69, 182, 70, 183, 184, 185, 186, 187, 188, 189, 190, 191, 192, 193, 194, 195, 196, 197, 198, 199, 200, 201, 202, 203, 204, 205, 206, 207, 208, 209, 210, 211, 212, 213, 214, 215, 216, 217, 218, 219, 220, 221, 222, 223, 224, 225, 226, 227, 228, 229, 230, 231, 232, 233, 234, 235, 236, 252, 253, 254, 255, 256, 257, 258, 259, 237, 238, 239, 240, 241, 242, 243, 263, 264, 265, 266, 267, 268, 269, 270, 271, 272, 273, 274, 275, 276, 277, 278, 279, 280, 281, 282] (by decide +kernel) (by decide +kernel)
set_option maxRecDepth 20000 in
theorem gX7_init_X1_arrange : GoodIn wsX7_init (wsV RX7 36 RX1 yX1_arrange wsX1_arrange) := goodIn_app (goodIn_of _ (by decide +kernel)) ggX7_init_X1_arrange
theorem dX7_init_0 : decode cX7_init 0 = .ok (.aload_n 0, 1) := by decide +kernel
theorem dX7_init_1 : decode cX7_init 1 = .ok (.invokespecial 1, 3) := by decide +kernel
theorem dX7_init_4 : decode cX7_init 4 = .ok (.aload_n 0, 1) := by decide +kernel
theorem dX7_init_5 : decode cX7_init 5 = .ok (.new 7, 3) := by decide +kernel
theorem dX7_init_8 : decode cX7_init 8 = .ok (.dup, 1) := by decide +kernel
theorem dX7_init_9 : decode cX7_init 9 = .ok (.invokespecial 9, 3) := by decide +kernel
theorem dX7_init_12 : decode cX7_init 12 = .ok (.putfield 10, 3) := by decide +kernel
theorem dX7_init_15 : decode cX7_init 15 = .ok (.aload_n 0, 1) := by decide +kernel
theorem dX7_init_16 : decode cX7_init 16 = .ok (.new 16, 3) := by decide +kernel
theorem dX7_init_19 : decode cX7_init 19 = .ok (.dup, 1) := by decide +kernel
theorem dX7_init_20 : decode cX7_init 20 = .ok (.invokespecial 18, 3) := by decide +kernel
theorem dX7_init_23 : decode cX7_init 23 = .ok (.putfield 19, 3) := by decide +kernel
theorem dX7_init_26 : decode cX7_init 26 = .ok (.aload_n 0, 1) := by decide +kernel
theorem dX7_init_27 : decode cX7_init 27 = .ok (.new 23, 3) := by decide +kernel
theorem dX7_init_30 : decode cX7_init 30 = .ok (.dup, 1) := by decide +kernel
theorem dX7_init_31 : decode cX7_init 31 = .ok (.invokespecial 25, 3) := by decide +kernel
theorem dX7_init_34 : decode cX7_init 34 = .ok (.putfield 26, 3) := by decide +kernel
theorem dX7_init_37 : decode cX7_init 37 = .ok (.aload_n 0, 1) := by decide +kernel
theorem dX7_init_38 : decode cX7_init 38 = .ok (.new 7, 3) := by decide +kernel
theorem dX7_init_41 : decode cX7_init 41 = .ok (.dup, 1) := by decide +kernel
theorem dX7_init_42 : decode cX7_init 42 = .ok (.invokespecial 9, 3) := by decide +kernel
theorem dX7_init_45 : decode cX7_init 45 = .ok (.putfield 30, 3) := by decide +kernel
theorem dX7_init_48 : decode cX7_init 48 = .ok (.aload_n 0, 1) := by decide +kernel
theorem dX7_init_49 : decode cX7_init 49 = .ok (.new 16, 3) := by decide +kernel
theorem dX7_init_52 : decode cX7_init 52 = .ok (.dup, 1) := by decide +kernel
theorem dX7_init_53 : decode cX7_init 53 = .ok (.invokespecial 18, 3) := by decide +kernel
theorem dX7_init_56 : decode cX7_init 56 = .ok (.putfield 33, 3) := by decide +kernel
theorem dX7_init_59 : decode cX7_init 59 = .ok (.aload_n 0, 1) := by decide +kernel
theorem dX7_init_60 : decode cX7_init 60 = .ok (.getfield 19, 3) := by decide +kernel
theorem dX7_init_63 : decode cX7_init 63 = .ok (.aload_n 0, 1) := by decide +kernel
theorem dX7_init_64 : decode cX7_init 64 = .ok (.getfield 10, 3) := by decide +kernel
theorem dX7_init_67 : decode cX7_init 67 = .ok (.invokevirtual 36, 3) := by decide +kernel
theorem dX7_init_70 : decode cX7_init 70 = .ok (.return_, 1) := by decide +kernel
set_option maxRecDepth 20000 in
theorem ggX7_addNode_X5_has : GoodIn wsX7_addNode wsX5_has := goodIn_r _ [9, 10, 236, 237, 238, 239, 240, 241, 242] (by decide +kernel) (by decide +kernel)
set_option maxRecDepth 20000 in
theorem gX7_addNode_X5_has : GoodIn wsX7_addNode (wsV RX7 40 RX5 yX5_has wsX5_has) := goodIn_app (goodIn_of _ (by decide +kernel)) ggX7_addNode_X5_has
set_option maxRecDepth 20000 in
theorem ggX7_addNode_X7_isSize : GoodIn wsX7_addNode wsX7_isSize := goodIn_r _ [14] (by decide +kernel) (by decide +kernel)
set_option maxRecDepth 20000 in
theorem gX7_addNode_X7_isSize : GoodIn wsX7_addNode (va_wsS RX7 44 yX7_isSize wsX7_isSize) := goodIn_app (goodIn_of _ (by decide +kernel)) ggX7_addNode_X7_isSize
set_option maxRecDepth 20000 in
theorem ggX7_addNode_X7_failInvalid : GoodIn wsX7_addNode wsX7_failInvalid := goodIn_r _ [18, 19, 228, 229, 230, 231, 232, 233, 234, 235] (by decide +kernel) (by decide +kernel)
set_option maxRecDepth 20000 in
theorem gX7_addNode_X7_failInvalid : GoodIn wsX7_addNode (wsV RX7 47 RX7 yX7_failInvalid wsX7_failInvalid) := goodIn_app (goodIn_of _ (by decide +kernel)) ggX7_addNode_X7_failInvalid
set_option maxRecDepth 20000 in
theorem ggX7_addNode_X7_failFull : GoodIn wsX7_addNode wsX7_failFull := goodIn_r _ [23, 24, 228, 229, 230, 231, 232, 233, 234, 235] (by decide +kernel) (by decide +kernel)
set_option maxRecDepth 20000 in
theorem gX7_addNode_X7_failFull : GoodIn wsX7_addNode (wsV RX7 55 RX7 yX7_failFull wsX7_failFull) := goodIn_app (goodIn_of _ (by decide +kernel)) ggX7_addNode_X7_failFull
set_option maxRecDepth 20000 in
theorem ggX7_addNode_X6_push : GoodIn wsX7_addNode wsX6_push := goodIn_r _ [29, 30, 31, 32, 33, 34, 35, 8, 36, 37, 38, 39, 40, 41, 42, 10, 43, 44, 45, 46, 243, 244, 245, 236, 237, 238, 239, 240, 241, 242] (by decide +kernel) (by decide +kernel)
set_option maxRecDepth 20000 in
theorem gX7_addNode_X6_push : GoodIn wsX7_addNode (wsV RX7 58 RX6 yX6_push wsX6_push) := goodIn_app (goodIn_of _ (by decide +kernel)) ggX7_addNode_X6_push
set_option maxRecDepth 20000 in
theorem ggX7_addNode_X5_append : GoodIn wsX7_addNode wsX5_append := goodIn_r _ [50, 10, 37, 42, 236, 237, 238, 239, 240, 241, 242] (by decide +kernel) (by decide +kernel)
set_option maxRecDepth 20000 in
theorem gX7_addNode_X5_append : GoodIn wsX7_addNode (wsV RX7 61 RX5 yX5_append wsX5_append) := goodIn_app (goodIn_of _ (by decide +kernel)) ggX7_addNode_X5_append
set_option maxRecDepth 20000 in
theorem ggX7_addNode_X1_arrange : GoodIn wsX7_addNode wsX1_arrange := goodIn_r _ [55, 56, 57, 58, 59, 60, 61, 62, 63, 64, 54, 65, 66, 67, 68, 69, 70, 71, 72, 73, 74, 75, 76, 77, 78, 79, 80, 81, 82, 83, 84, 85, 86, 87, 88, 89, 90, 91, 92, 93, 94, 95, 96, 97, 98, 99, 100, 101, 102, 103, 104, 105, 106, 107, 108, 109, 110, 111, 112, 113, 114, 115, 116, 117, 118, 119, 120, 121, 122, 123, 124, 125, 126, 127, 128, 129, 130, 131, 132, 133, 134, 135, 136, 137, 138, 139, 140, 141, 142, 143, 144, 145, 146, 147, 148, 149, 150, 151, 152, 153, 154, 155, 156, 157, 158, 159, 160, 161, 162, 163, 164, 165, 166, 167, 168, 169, 170, 171, 172, 173, 174, 175, 176, 177, 178, 179, 180, 181, 182, 183, 184, 185, 186, 187, 188, 189, 190, 191, 192, 193, 194, 195, 196, 197, 198, 199, 200, 201, 202, 203, 204, 205, 206, 207, 208, 209, 210, 211, 212, 213, 214, 215, 216, 217, 218, 219, 220, 221, 222, 223, 224, 225, 226, 227, 246, 247, 248, 249, 250, 251, 252, 253, 236, 237, 238, 239, 240, 241, 242, 254, 255, 256, 257, 258, 259, 260, 261, 262, 263, 264, 265, 266, 267, 268, 269, 270, 271, 272, 273] (by decide +kernel) (by decide +kernel)
set_option maxRecDepth 20000 in
theorem gX7_addNode_X1_arrange : GoodIn wsX7_addNode (wsV RX7 36 RX1 yX1_arrange wsX1_arrange) := goodIn_app (goodIn_of _ (by decide +kernel)) ggX7_addNode_X1_arrange
theorem dX7_addNode_0 : decode cX7_addNode 0 = .ok (.aload_n 0, 1) := by decide +kernel
theorem dX7_addNode_1 : decode cX7_addNode 1 = .ok (.getfield 10, 3) := by decide +kernel
theorem dX7_addNode_4 : decode cX7_addNode 4 = .ok (.iload_n 1, 1) := by decide +kernel
theorem dX7_addNode_5 : decode cX7_addNode 5 = .ok (.invokevirtual 40, 3) := by decide +kernel
theorem dX7_addNode_8 : decode cX7_addNode 8 = .ok (.ifCond .eq 10, 3) := by decide +kernel
theorem dX7_addNode_11 : decode cX7_addNode 11 = .ok (.iload_n 2, 1) := by decide +kernel
theorem dX7_addNode_12 : decode cX7_addNode 12 = .ok (.invokestatic 44, 3) := by decide +kernel
theorem dX7_addNode_15 : decode cX7_addNode 15 = .ok (.ifCond .ne 8, 3) := by decide +kernel
theorem dX7_addNode_18 : decode cX7_addNode 18 = .ok (.aload_n 0, 1) := by decide +kernel
theorem dX7_addNode_19 : decode cX7_addNode 19 = .ok (.invokevirtual 47, 3) := by decide +kernel
theorem dX7_addNode_22 : decode cX7_addNode 22 = .ok (.ireturn, 1) := by decide +kernel
theorem dX7_addNode_23 : decode cX7_addNode 23 = .ok (.aload_n 0, 1) := by decide +kernel
theorem dX7_addNode_24 : decode cX7_addNode 24 = .ok (.getfield 10, 3) := by decide +kernel
theorem dX7_addNode_27 : decode cX7_addNode 27 = .ok (.getfield 51, 3) := by decide +kernel
theorem dX7_addNode_30 : decode cX7_addNode 30 = .ok (.bipush 24, 2) := by decide +kernel
theorem dX7_addNode_32 : decode cX7_addNode 32 = .ok (.if_icmp .lt 8, 3) := by decide +kernel
theorem dX7_addNode_35 : decode cX7_addNode 35 = .ok (.aload_n 0, 1) := by decide +kernel
theorem dX7_addNode_36 : decode cX7_addNode 36 = .ok (.invokevirtual 55, 3) := by decide +kernel
theorem dX7_addNode_39 : decode cX7_addNode 39 = .ok (.ireturn, 1) := by decide +kernel
theorem dX7_addNode_40 : decode cX7_addNode 40 = .ok (.aload_n 0, 1) := by decide +kernel
theorem dX7_addNode_41 : decode cX7_addNode 41 = .ok (.getfield 26, 3) := by decide +kernel
theorem dX7_addNode_44 : decode cX7_addNode 44 = .ok (.aload_n 0, 1) := by decide +kernel
theorem dX7_addNode_45 : decode cX7_addNode 45 = .ok (.getfield 10, 3) := by decide +kernel
theorem dX7_addNode_48 : decode cX7_addNode 48 = .ok (.invokevirtual 58, 3) := by decide +kernel
theorem dX7_addNode_51 : decode cX7_addNode 51 = .ok (.aload_n 0, 1) := by decide +kernel
theorem dX7_addNode_52 : decode cX7_addNode 52 = .ok (.getfield 10, 3) := by decide +kernel
theorem dX7_addNode_55 : decode cX7_addNode 55 = .ok (.iload_n 1, 1) := by decide +kernel
theorem dX7_addNode_56 : decode cX7_addNode 56 = .ok (.iload_n 2, 1) := by decide +kernel
theorem dX7_addNode_57 : decode cX7_addNode 57 = .ok (.invokevirtual 61, 3) := by decide +kernel
theorem dX7_addNode_60 : decode cX7_addNode 60 = .ok (.aload_n 0, 1) := by decide +kernel
theorem dX7_addNode_61 : decode cX7_addNode 61 = .ok (.getfield 19, 3) := by decide +kernel
theorem dX7_addNode_64 : decode cX7_addNode 64 = .ok (.aload_n 0, 1) := by decide +kernel
theorem dX7_addNode_65 : decode cX7_addNode 65 = .ok (.getfield 10, 3) := by decide +kernel
theorem dX7_addNode_68 : decode cX7_addNode 68 = .ok (.invokevirtual 36, 3) := by decide +kernel
theorem dX7_addNode_71 : decode cX7_addNode 71 = .ok (.aload_n 0, 1) := by decide +kernel
theorem dX7_addNode_72 : decode cX7_addNode 72 = .ok (.getfield 10, 3) := by decide +kernel
theorem dX7_addNode_75 : decode cX7_addNode 75 = .ok (.getfield 51, 3) := by decide +kernel
theorem dX7_addNode_78 : decode cX7_addNode 78 = .ok (.iconst 1, 1) := by decide +kernel
theorem dX7_addNode_79 : decode cX7_addNode 79 = .ok (.isub, 1) := by decide +kernel
theorem dX7_addNode_80 : decode cX7_addNode 80 = .ok (.ireturn, 1) := by decide +kernel
set_option maxRecDepth 20000 in
theorem ggX7_setSize_X5_has : GoodIn wsX7_setSize wsX5_has := goodIn_r _ [9, 10, 227, 228, 229, 230, 231, 232, 233] (by decide +kernel) (by decide +kernel)
set_option maxRecDepth 20000 in
theorem gX7_setSize_X5_has : GoodIn wsX7_setSize (wsV RX7 40 RX5 yX5_has wsX5_has) := goodIn_app (goodIn_of _ (by decide +kernel)) ggX7_setSize_X5_has
set_option maxRecDepth 20000 in
theorem ggX7_setSize_X7_isSize : GoodIn wsX7_setSize wsX7_isSize := goodIn_r _ [14] (by decide +kernel) (by decide +kernel)
set_option maxRecDepth 20000 in
theorem gX7_setSize_X7_isSize : GoodIn wsX7_setSize (va_wsS RX7 44 yX7_isSize wsX7_isSize) := goodIn_app (goodIn_of _ (by decide +kernel)) ggX7_setSize_X7_isSize
set_option maxRecDepth 20000 in
theorem ggX7_setSize_X7_failInvalid : GoodIn wsX7_setSize wsX7_failInvalid := goodIn_r _ [18, 19, 219, 220, 221, 222, 223, 224, 225, 226] (by decide +kernel) (by decide +kernel)
set_option maxRecDepth 20000 in
theorem gX7_setSize_X7_failInvalid : GoodIn wsX7_setSize (wsV RX7 47 RX7 yX7_failInvalid wsX7_failInvalid) := goodIn_app (goodIn_of _ (by decide +kernel)) ggX7_setSize_X7_failInvalid
set_option maxRecDepth 20000 in
theorem ggX7_setSize_X6_push : GoodIn wsX7_setSize wsX6_push := goodIn_r _ [24, 25, 26, 27, 28, 29, 30, 8, 31, 32, 33, 34, 35, 36, 37, 10, 38, 39, 40, 41, 234, 235, 236, 227, 228, 229, 230, 231, 232, 233] (by decide +kernel) (by decide +kernel)
set_option maxRecDepth 20000 in
theorem gX7_setSize_X6_push : GoodIn wsX7_setSize (wsV RX7 58 RX6 yX6_push wsX6_push) := goodIn_app (goodIn_of _ (by decide +kernel)) ggX7_setSize_X6_push
set_option maxRecDepth 20000 in
theorem ggX7_setSize_X1_arrange : GoodIn wsX7_setSize wsX1_arrange := goodIn_r _ [46, 47, 48, 49, 50, 51, 52, 53, 54, 55, 45, 56, 57, 58, 59, 60, 61, 62, 63, 64, 65, 66, 67, 68, 69, 70, 71, 72, 73, 74, 75, 76, 77, 78, 79, 80, 81, 82, 83, 84, 85, 86, 87, 88, 89, 90, 91, 92, 93, 94, 95, 96, 97, 98, 99, 100, 101, 102, 103, 104, 105, 106, 107, 108, 109, 110, 111, 112, 113, 114, 115, 116, 117, 118, 119, 120, 121, 122, 123, 124, 125, 126, 127, 128, 129, 130, 131, 132, 133, 134, 135, 136, 137, 138, 139, 140, 141, 142, 143, 144, 145, 146, 147, 148, 149, 150, 151, 152, 153, 154, 155, 156, 157, 158, 159, 160, 161, 162, 163, 164, 165, 166, 167, 168, 169, 170, 171, 172, 173, 174, 175, 176, 177, 178, 179, 180, 181, 182, 183, 184, 185, 186, 187, 188, 189, 190, 191, 192, 193, 194, 195, 196, 197, 198, 199, 200, 201, 202, 203, 204, 205, 206, 207, 208, 209, 210, 211, 212, 213, 214, 215, 216, 217, 218, 237, 238, 239, 240, 241, 242, 243, 244, 227, 228, 229, 230, 231, 232, 233, 245, 246, 247, 248, 249, 250, 251, 252, 253, 254, 255, 256, 257, 258, 259, 260, 261, 262, 263, 264] (by decide +kernel) (by decide +kernel)
set_option maxRecDepth 20000 in
theorem gX7_setSize_X1_arrange : GoodIn wsX7_setSize (wsV RX7 36 RX1 yX1_arrange wsX1_arrange) := goodIn_app (goodIn_of _ (by decide +kernel)) ggX7_setSize_X1_arrange
theorem dX7_setSize_0 : decode cX7_setSize 0 = .ok (.aload_n 0, 1) := by decide +kernel
theorem dX7_setSize_1 : decode cX7_setSize 1 = .ok (.getfield 10, 3) := by decide +kernel
theorem dX7_setSize_4 : decode cX7_setSize 4 = .ok (.iload_n 1, 1) := by decide +kernel
theorem dX7_setSize_5 : decode cX7_setSize 5 = .ok (.invokevirtual 40, 3) := by decide +kernel
theorem dX7_setSize_8 : decode cX7_setSize 8 = .ok (.ifCond .eq 10, 3) := by decide +kernel
theorem dX7_setSize_11 : decode cX7_setSize 11 = .ok (.iload_n 2, 1) := by decide +kernel
theorem dX7_setSize_12 : decode cX7_setSize 12 = .ok (.invokestatic 44, 3) := by decide +kernel
theorem dX7_setSize_15 : decode cX7_setSize 15 = .ok (.ifCond .ne 8, 3) := by decide +kernel
theorem dX7_setSize_18 : decode cX7_setSize 18 = .ok (.aload_n 0, 1) := by decide +kernel
theorem dX7_setSize_19 : decode cX7_setSize 19 = .ok (.invokevirtual 47, 3) := by decide +kernel
theorem dX7_setSize_22 : decode cX7_setSize 22 = .ok (.ireturn, 1) := by decide +kernel
theorem dX7_setSize_23 : decode cX7_setSize 23 = .ok (.aload_n 0, 1) := by decide +kernel
theorem dX7_setSize_24 : decode cX7_setSize 24 = .ok (.getfield 26, 3) := by decide +kernel
theorem dX7_setSize_27 : decode cX7_setSize 27 = .ok (.aload_n 0, 1) := by decide +kernel
theorem dX7_setSize_28 : decode cX7_setSize 28 = .ok (.getfield 10, 3) := by decide +kernel
theorem dX7_setSize_31 : decode cX7_setSize 31 = .ok (.invokevirtual 58, 3) := by decide +kernel
theorem dX7_setSize_34 : decode cX7_setSize 34 = .ok (.aload_n 0, 1) := by decide +kernel
theorem dX7_setSize_35 : decode cX7_setSize 35 = .ok (.getfield 10, 3) := by decide +kernel
theorem dX7_setSize_38 : decode cX7_setSize 38 = .ok (.getfield 65, 3) := by decide +kernel
theorem dX7_setSize_41 : decode cX7_setSize 41 = .ok (.iload_n 1, 1) := by decide +kernel
theorem dX7_setSize_42 : decode cX7_setSize 42 = .ok (.iaload, 1) := by decide +kernel
theorem dX7_setSize_43 : decode cX7_setSize 43 = .ok (.istore_n 3, 1) := by decide +kernel
theorem dX7_setSize_44 : decode cX7_setSize 44 = .ok (.aload_n 0, 1) := by decide +kernel
theorem dX7_setSize_45 : decode cX7_setSize 45 = .ok (.getfield 10, 3) := by decide +kernel
theorem dX7_setSize_48 : decode cX7_setSize 48 = .ok (.getfield 65, 3) := by decide +kernel
theorem dX7_setSize_51 : decode cX7_setSize 51 = .ok (.iload_n 1, 1) := by decide +kernel
theorem dX7_setSize_52 : decode cX7_setSize 52 = .ok (.iload_n 2, 1) := by decide +kernel
theorem dX7_setSize_53 : decode cX7_setSize 53 = .ok (.iastore, 1) := by decide +kernel
theorem dX7_setSize_54 : decode cX7_setSize 54 = .ok (.aload_n 0, 1) := by decide +kernel
theorem dX7_setSize_55 : decode cX7_setSize 55 = .ok (.getfield 19, 3) := by decide +kernel
theorem dX7_setSize_58 : decode cX7_setSize 58 = .ok (.aload_n 0, 1) := by decide +kernel
theorem dX7_setSize_59 : decode cX7_setSize 59 = .ok (.getfield 10, 3) := by decide +kernel
theorem dX7_setSize_62 : decode cX7_setSize 62 = .ok (.invokevirtual 36, 3) := by decide +kernel
theorem dX7_setSize_65 : decode cX7_setSize 65 = .ok (.iload_n 3, 1) := by decide +kernel
theorem dX7_setSize_66 : decode cX7_setSize 66 = .ok (.ireturn, 1) := by decide +kernel
set_option maxRecDepth 20000 in
theorem ggX7_removeLeaf_X5_has : GoodIn wsX7_removeLeaf wsX5_has := goodIn_r _ [9, 10, 235, 236, 237, 238, 239, 240, 241] (by decide +kernel) (by decide +kernel)
set_option maxRecDepth 20000 in
theorem gX7_removeLeaf_X5_has : GoodIn wsX7_removeLeaf (wsV RX7 40 RX5 yX5_has wsX5_has) := goodIn_app (goodIn_of _ (by decide +kernel)) ggX7_removeLeaf_X5_has
set_option maxRecDepth 20000 in
theorem ggX7_removeLeaf_X7_failInvalid : GoodIn wsX7_removeLeaf wsX7_failInvalid := goodIn_r _ [15, 16, 227, 228, 229, 230, 231, 232, 233, 234] (by decide +kernel) (by decide +kernel)
set_option maxRecDepth 20000 in
theorem gX7_removeLeaf_X7_failInvalid : GoodIn wsX7_removeLeaf (wsV RX7 47 RX7 yX7_failInvalid wsX7_failInvalid) := goodIn_app (goodIn_of _ (by decide +kernel)) ggX7_removeLeaf_X7_failInvalid
set_option maxRecDepth 20000 in
theorem ggX7_removeLeaf_X1_isLeaf : GoodIn wsX7_removeLeaf wsX1_isLeaf := goodIn_r _ [21, 22, 242, 243, 244, 245, 246, 247, 248, 249] (by decide +kernel) (by decide +kernel)
set_option maxRecDepth 20000 in
theorem gX7_removeLeaf_X1_isLeaf : GoodIn wsX7_removeLeaf (wsV RX7 69 RX1 yX1_isLeaf wsX1_isLeaf) := goodIn_app (goodIn_of _ (by decide +kernel)) ggX7_removeLeaf_X1_isLeaf
set_option maxRecDepth 20000 in
theorem ggX7_removeLeaf_X7_failRejected : GoodIn wsX7_removeLeaf wsX7_failRejected := goodIn_r _ [26, 27, 227, 228, 229, 230, 231, 232, 233, 234] (by decide +kernel) (by decide +kernel)
set_option maxRecDepth 20000 in
theorem gX7_removeLeaf_X7_failRejected : GoodIn wsX7_removeLeaf (wsV RX7 72 RX7 yX7_failRejected wsX7_failRejected) := goodIn_app (goodIn_of _ (by decide +kernel)) ggX7_removeLeaf_X7_failRejected
set_option maxRecDepth 20000 in
theorem ggX7_removeLeaf_X6_push : GoodIn wsX7_removeLeaf wsX6_push := goodIn_r _ [32, 33, 34, 35, 36, 37, 38, 8, 39, 40, 41, 42, 43, 44, 45, 10, 46, 47, 48, 49, 250, 251, 252, 235, 236, 237, 238, 239, 240, 241] (by decide +kernel) (by decide +kernel)
set_option maxRecDepth 20000 in
theorem gX7_removeLeaf_X6_push : GoodIn wsX7_removeLeaf (wsV RX7 58 RX6 yX6_push wsX6_push) := goodIn_app (goodIn_of _ (by decide +kernel)) ggX7_removeLeaf_X6_push
set_option maxRecDepth 20000 in
theorem ggX7_removeLeaf_X5_takeOut : GoodIn wsX7_removeLeaf wsX5_takeOut := goodIn_r _ [53, 10, 40, 45, 54, 6, 7, 8, 9, 235, 236, 237, 238, 239, 240, 241] (by decide +kernel) (by decide +kernel)
set_option maxRecDepth 20000 in
theorem gX7_removeLeaf_X5_takeOut : GoodIn wsX7_removeLeaf (wsV RX7 75 RX5 yX5_takeOut wsX5_takeOut) := goodIn_app (goodIn_of _ (by decide +kernel)) ggX7_removeLeaf_X5_takeOut
set_option maxRecDepth 20000 in
theorem ggX7_removeLeaf_X1_arrange : GoodIn wsX7_removeLeaf wsX1_arrange := goodIn_r _ [58, 59, 60, 61, 62, 63, 64, 65, 66, 67, 20, 68, 69, 70, 71, 22, 72, 73, 74, 75, 76, 77, 78, 18, 19, 21, 79, 80, 81, 82, 83, 84, 85, 86, 87, 88, 89, 90, 91, 92, 93, 94, 95, 96, 97, 98, 99, 100, 101, 102, 103, 104, 105, 106, 107, 108, 109, 110, 111, 112, 113, 114, 115, 116, 117, 118, 119, 120, 121, 122, 123, 124, 125, 126, 127, 128, 129, 130, 131, 132, 133, 134, 135, 136, 137, 138, 139, 140, 141, 142, 143, 144, 145, 146, 147, 148, 149, 150, 151, 152, 153, 154, 155, 156, 157, 158, 159, 160, 161, 162, 163, 164, 165, 166, 167, 168, 169, 170, 171, 172, 173, 174, 175, 176, 177, 178, 179, 180, 181, 182, 183, 184, 185, 186, 187, 188, 189, 190, 191, 192, 193, 194, 195, 196, 197, 198, 199, 200, 201, 202, 203, 204, 205, 206, 207, 208, 209, 210, 211, 212, 213, 214, 215, 216, 217, 218, 219, 220, 221, 222, 223, 224, 225, 226, 242, 243, 244, 245, 246, 247, 248, 249, 235, 236, 237, 238, 239, 240, 241, 253, 254, 255, 256, 257, 258, 259, 260, 261, 262, 263, 264, 265, 266, 267, 268, 269, 270, 271, 272] (by decide +kernel) (by decide +kernel)
set_option maxRecDepth 20000 in
theorem gX7_removeLeaf_X1_arrange : GoodIn wsX7_removeLeaf (wsV RX7 36 RX1 yX1_arrange wsX1_arrange) := goodIn_app (goodIn_of _ (by decide +kernel)) ggX7_removeLeaf_X1_arrange
theorem dX7_removeLeaf_0 : decode cX7_removeLeaf 0 = .ok (.aload_n 0, 1) := by decide +kernel
theorem dX7_removeLeaf_1 : decode cX7_removeLeaf 1 = .ok (.getfield 10, 3) := by decide +kernel
theorem dX7_removeLeaf_4 : decode cX7_removeLeaf 4 = .ok (.iload_n 1, 1) := by decide +kernel
theorem dX7_removeLeaf_5 : decode cX7_removeLeaf 5 = .ok (.invokevirtual 40, 3) := by decide +kernel
theorem dX7_removeLeaf_8 : decode cX7_removeLeaf 8 = .ok (.ifCond .ne 8, 3) := by decide +kernel
theorem dX7_removeLeaf_11 : decode cX7_removeLeaf 11 = .ok (.aload_n 0, 1) := by decide +kernel
theorem dX7_removeLeaf_12 : decode cX7_removeLeaf 12 = .ok (.invokevirtual 47, 3) := by decide +kernel
theorem dX7_removeLeaf_15 : decode cX7_removeLeaf 15 = .ok (.ireturn, 1) := by decide +kernel
theorem dX7_removeLeaf_16 : decode cX7_removeLeaf 16 = .ok (.iload_n 1, 1) := by decide +kernel
theorem dX7_removeLeaf_17 : decode cX7_removeLeaf 17 = .ok (.ifCond .eq 14, 3) := by decide +kernel
theorem dX7_removeLeaf_20 : decode cX7_removeLeaf 20 = .ok (.aload_n 0, 1) := by decide +kernel
theorem dX7_removeLeaf_21 : decode cX7_removeLeaf 21 = .ok (.getfield 19, 3) := by decide +kernel
theorem dX7_removeLeaf_24 : decode cX7_removeLeaf 24 = .ok (.iload_n 1, 1) := by decide +kernel
theorem dX7_removeLeaf_25 : decode cX7_removeLeaf 25 = .ok (.invokevirtual 69, 3) := by decide +kernel
theorem dX7_removeLeaf_28 : decode cX7_removeLeaf 28 = .ok (.ifCond .ne 8, 3) := by decide +kernel
theorem dX7_removeLeaf_31 : decode cX7_removeLeaf 31 = .ok (.aload_n 0, 1) := by decide +kernel
theorem dX7_removeLeaf_32 : decode cX7_removeLeaf 32 = .ok (.invokevirtual 72, 3) := by decide +kernel
theorem dX7_removeLeaf_35 : decode cX7_removeLeaf 35 = .ok (.ireturn, 1) := by decide +kernel
theorem dX7_removeLeaf_36 : decode cX7_removeLeaf 36 = .ok (.aload_n 0, 1) := by decide +kernel
theorem dX7_removeLeaf_37 : decode cX7_removeLeaf 37 = .ok (.getfield 26, 3) := by decide +kernel
theorem dX7_removeLeaf_40 : decode cX7_removeLeaf 40 = .ok (.aload_n 0, 1) := by decide +kernel
theorem dX7_removeLeaf_41 : decode cX7_removeLeaf 41 = .ok (.getfield 10, 3) := by decide +kernel
theorem dX7_removeLeaf_44 : decode cX7_removeLeaf 44 = .ok (.invokevirtual 58, 3) := by decide +kernel
theorem dX7_removeLeaf_47 : decode cX7_removeLeaf 47 = .ok (.aload_n 0, 1) := by decide +kernel
theorem dX7_removeLeaf_48 : decode cX7_removeLeaf 48 = .ok (.getfield 10, 3) := by decide +kernel
theorem dX7_removeLeaf_51 : decode cX7_removeLeaf 51 = .ok (.iload_n 1, 1) := by decide +kernel
theorem dX7_removeLeaf_52 : decode cX7_removeLeaf 52 = .ok (.invokevirtual 75, 3) := by decide +kernel
theorem dX7_removeLeaf_55 : decode cX7_removeLeaf 55 = .ok (.aload_n 0, 1) := by decide +kernel
theorem dX7_removeLeaf_56 : decode cX7_removeLeaf 56 = .ok (.getfield 19, 3) := by decide +kernel
theorem dX7_removeLeaf_59 : decode cX7_removeLeaf 59 = .ok (.aload_n 0, 1) := by decide +kernel
theorem dX7_removeLeaf_60 : decode cX7_removeLeaf 60 = .ok (.getfield 10, 3) := by decide +kernel
theorem dX7_removeLeaf_63 : decode cX7_removeLeaf 63 = .ok (.invokevirtual 36, 3) := by decide +kernel
theorem dX7_removeLeaf_66 : decode cX7_removeLeaf 66 = .ok (.aload_n 0, 1) := by decide +kernel
theorem dX7_removeLeaf_67 : decode cX7_removeLeaf 67 = .ok (.getfield 10, 3) := by decide +kernel
theorem dX7_removeLeaf_70 : decode cX7_removeLeaf 70 = .ok (.getfield 51, 3) := by decide +kernel
theorem dX7_removeLeaf_73 : decode cX7_removeLeaf 73 = .ok (.ireturn, 1) := by decide +kernel
set_option maxRecDepth 20000 in
theorem ggX7_setParent_X5_has : GoodIn wsX7_setParent wsX5_has := goodIn_r _ [9, 10, 234, 235, 236, 237, 238, 239, 240] (by decide +kernel) (by decide +kernel)
set_option maxRecDepth 20000 in
theorem gX7_setParent_X5_has : GoodIn wsX7_setParent (wsV RX7 40 RX5 yX5_has wsX5_has) := goodIn_app (goodIn_of _ (by decide +kernel)) ggX7_setParent_X5_has
set_option maxRecDepth 20000 in
theorem ggX7_setParent_X7_failInvalid : GoodIn wsX7_setParent wsX7_failInvalid := goodIn_r _ [15, 16, 226, 227, 228, 229, 230, 231, 232, 233] (by decide +kernel) (by decide +kernel)
set_option maxRecDepth 20000 in
theorem gX7_setParent_X7_failInvalid : GoodIn wsX7_setParent (wsV RX7 47 RX7 yX7_failInvalid wsX7_failInvalid) := goodIn_app (goodIn_of _ (by decide +kernel)) ggX7_setParent_X7_failInvalid
set_option maxRecDepth 20000 in
theorem ggX7_setParent_X5_isWithin : GoodIn wsX7_setParent wsX5_isWithin := goodIn_r _ [20, 21, 22, 6, 7, 8, 9, 10, 234, 235, 236, 237, 238, 239, 240] (by decide +kernel) (by decide +kernel)
set_option maxRecDepth 20000 in
theorem gX7_setParent_X5_isWithin : GoodIn wsX7_setParent (wsV RX7 79 RX5 yX5_isWithin wsX5_isWithin) := goodIn_app (goodIn_of _ (by decide +kernel)) ggX7_setParent_X5_isWithin
set_option maxRecDepth 20000 in
theorem ggX7_setParent_X7_failRejected : GoodIn wsX7_setParent wsX7_failRejected := goodIn_r _ [26, 27, 226, 227, 228, 229, 230, 231, 232, 233] (by decide +kernel) (by decide +kernel)
set_option maxRecDepth 20000 in
theorem gX7_setParent_X7_failRejected : GoodIn wsX7_setParent (wsV RX7 72 RX7 yX7_failRejected wsX7_failRejected) := goodIn_app (goodIn_of _ (by decide +kernel)) ggX7_setParent_X7_failRejected
set_option maxRecDepth 20000 in
theorem ggX7_setParent_X6_push : GoodIn wsX7_setParent wsX6_push := goodIn_r _ [32, 33, 34, 35, 36, 37, 38, 8, 39, 40, 41, 42, 43, 44, 21, 10, 45, 46, 47, 48, 241, 242, 243, 234, 235, 236, 237, 238, 239, 240] (by decide +kernel) (by decide +kernel)
set_option maxRecDepth 20000 in
theorem gX7_setParent_X6_push : GoodIn wsX7_setParent (wsV RX7 58 RX6 yX6_push wsX6_push) := goodIn_app (goodIn_of _ (by decide +kernel)) ggX7_setParent_X6_push
set_option maxRecDepth 20000 in
theorem ggX7_setParent_X1_arrange : GoodIn wsX7_setParent wsX1_arrange := goodIn_r _ [53, 54, 55, 56, 57, 58, 59, 60, 61, 62, 52, 63, 64, 65, 66, 67, 68, 69, 70, 71, 72, 73, 74, 75, 76, 77, 78, 79, 80, 81, 82, 83, 84, 85, 86, 87, 88, 89, 90, 91, 92, 93, 94, 95, 96, 97, 98, 99, 100, 101, 102, 103, 104, 105, 106, 107, 108, 109, 110, 111, 112, 113, 114, 115, 116, 117, 118, 119, 120, 121, 122, 123, 124, 125, 126, 127, 128, 129, 130, 131, 132, 133, 134, 135, 136, 137, 138, 139, 140, 141, 142, 143, 144, 145, 146, 147, 148, 149, 150, 151, 152, 153, 154, 155, 156, 157, 158, 159, 160, 161, 162, 163, 164, 165, 166, 167, 168, 169, 170, 171, 172, 173, 174, 175, 176, 177, 178, 179, 180, 181, 182, 183, 184, 185, 186, 187, 188, 189, 190, 191, 192, 193, 194, 195, 196, 197, 198, 199, 200, 201, 202, 203, 204, 205, 206, 207, 208, 209, 210, 211, 212, 213, 214, 215, 216, 217, 218, 219, 220, 221, 222, 223, 224, 225, 244, 245, 246, 247, 248, 249, 250, 251, 234, 235, 236, 237, 238, 239, 240, 252, 253, 254, 255, 256, 257, 258, 259, 260, 261, 262, 263, 264, 265, 266, 267, 268, 269, 270, 271] (by decide +kernel) (by decide +kernel)
set_option maxRecDepth 20000 in
theorem gX7_setParent_X1_arrange : GoodIn wsX7_setParent (wsV RX7 36 RX1 yX1_arrange wsX1_arrange) := goodIn_app (goodIn_of _ (by decide +kernel)) ggX7_setParent_X1_arrange
theorem dX7_setParent_0 : decode cX7_setParent 0 = .ok (.aload_n 0, 1) := by decide +kernel
theorem dX7_setParent_1 : decode cX7_setParent 1 = .ok (.getfield 10, 3) := by decide +kernel
theorem dX7_setParent_4 : decode cX7_setParent 4 = .ok (.iload_n 1, 1) := by decide +kernel
theorem dX7_setParent_5 : decode cX7_setParent 5 = .ok (.invokevirtual 40, 3) := by decide +kernel
theorem dX7_setParent_8 : decode cX7_setParent 8 = .ok (.ifCond .eq 14, 3) := by decide +kernel
theorem dX7_setParent_11 : decode cX7_setParent 11 = .ok (.aload_n 0, 1) := by decide +kernel
theorem dX7_setParent_12 : decode cX7_setParent 12 = .ok (.getfield 10, 3) := by decide +kernel
theorem dX7_setParent_15 : decode cX7_setParent 15 = .ok (.iload_n 2, 1) := by decide +kernel
theorem dX7_setParent_16 : decode cX7_setParent 16 = .ok (.invokevirtual 40, 3) := by decide +kernel
theorem dX7_setParent_19 : decode cX7_setParent 19 = .ok (.ifCond .ne 8, 3) := by decide +kernel
theorem dX7_setParent_22 : decode cX7_setParent 22 = .ok (.aload_n 0, 1) := by decide +kernel
theorem dX7_setParent_23 : decode cX7_setParent 23 = .ok (.invokevirtual 47, 3) := by decide +kernel
theorem dX7_setParent_26 : decode cX7_setParent 26 = .ok (.ireturn, 1) := by decide +kernel
theorem dX7_setParent_27 : decode cX7_setParent 27 = .ok (.iload_n 1, 1) := by decide +kernel
theorem dX7_setParent_28 : decode cX7_setParent 28 = .ok (.ifCond .eq 15, 3) := by decide +kernel
theorem dX7_setParent_31 : decode cX7_setParent 31 = .ok (.aload_n 0, 1) := by decide +kernel
theorem dX7_setParent_32 : decode cX7_setParent 32 = .ok (.getfield 10, 3) := by decide +kernel
theorem dX7_setParent_35 : decode cX7_setParent 35 = .ok (.iload_n 2, 1) := by decide +kernel
theorem dX7_setParent_36 : decode cX7_setParent 36 = .ok (.iload_n 1, 1) := by decide +kernel
theorem dX7_setParent_37 : decode cX7_setParent 37 = .ok (.invokevirtual 79, 3) := by decide +kernel
theorem dX7_setParent_40 : decode cX7_setParent 40 = .ok (.ifCond .eq 8, 3) := by decide +kernel
theorem dX7_setParent_43 : decode cX7_setParent 43 = .ok (.aload_n 0, 1) := by decide +kernel
theorem dX7_setParent_44 : decode cX7_setParent 44 = .ok (.invokevirtual 72, 3) := by decide +kernel
theorem dX7_setParent_47 : decode cX7_setParent 47 = .ok (.ireturn, 1) := by decide +kernel
theorem dX7_setParent_48 : decode cX7_setParent 48 = .ok (.aload_n 0, 1) := by decide +kernel
theorem dX7_setParent_49 : decode cX7_setParent 49 = .ok (.getfield 26, 3) := by decide +kernel
theorem dX7_setParent_52 : decode cX7_setParent 52 = .ok (.aload_n 0, 1) := by decide +kernel
theorem dX7_setParent_53 : decode cX7_setParent 53 = .ok (.getfield 10, 3) := by decide +kernel
theorem dX7_setParent_56 : decode cX7_setParent 56 = .ok (.invokevirtual 58, 3) := by decide +kernel
theorem dX7_setParent_59 : decode cX7_setParent 59 = .ok (.aload_n 0, 1) := by decide +kernel
theorem dX7_setParent_60 : decode cX7_setParent 60 = .ok (.getfield 10, 3) := by decide +kernel
theorem dX7_setParent_63 : decode cX7_setParent 63 = .ok (.getfield 83, 3) := by decide +kernel
theorem dX7_setParent_66 : decode cX7_setParent 66 = .ok (.iload_n 1, 1) := by decide +kernel
theorem dX7_setParent_67 : decode cX7_setParent 67 = .ok (.iaload, 1) := by decide +kernel
theorem dX7_setParent_68 : decode cX7_setParent 68 = .ok (.istore_n 3, 1) := by decide +kernel
theorem dX7_setParent_69 : decode cX7_setParent 69 = .ok (.aload_n 0, 1) := by decide +kernel
theorem dX7_setParent_70 : decode cX7_setParent 70 = .ok (.getfield 10, 3) := by decide +kernel
theorem dX7_setParent_73 : decode cX7_setParent 73 = .ok (.getfield 83, 3) := by decide +kernel
theorem dX7_setParent_76 : decode cX7_setParent 76 = .ok (.iload_n 1, 1) := by decide +kernel
theorem dX7_setParent_77 : decode cX7_setParent 77 = .ok (.iload_n 2, 1) := by decide +kernel
theorem dX7_setParent_78 : decode cX7_setParent 78 = .ok (.iastore, 1) := by decide +kernel
theorem dX7_setParent_79 : decode cX7_setParent 79 = .ok (.aload_n 0, 1) := by decide +kernel
theorem dX7_setParent_80 : decode cX7_setParent 80 = .ok (.getfield 19, 3) := by decide +kernel
theorem dX7_setParent_83 : decode cX7_setParent 83 = .ok (.aload_n 0, 1) := by decide +kernel
theorem dX7_setParent_84 : decode cX7_setParent 84 = .ok (.getfield 10, 3) := by decide +kernel
theorem dX7_setParent_87 : decode cX7_setParent 87 = .ok (.invokevirtual 36, 3) := by decide +kernel
theorem dX7_setParent_90 : decode cX7_setParent 90 = .ok (.iload_n 3, 1) := by decide +kernel
theorem dX7_setParent_91 : decode cX7_setParent 91 = .ok (.ireturn, 1) := by decide +kernel
set_option maxRecDepth 20000 in
theorem ggX7_setCanvas_X7_isSide : GoodIn wsX7_setCanvas wsX7_isSide := goodIn_r _ [9] (by decide +kernel) (by decide +kernel)
set_option maxRecDepth 20000 in
theorem gX7_setCanvas_X7_isSide : GoodIn wsX7_setCanvas (va_wsS RX7 86 yX7_isSide wsX7_isSide) := goodIn_app (goodIn_of _ (by decide +kernel)) ggX7_setCanvas_X7_isSide
set_option maxRecDepth 20000 in
theorem ggX7_setCanvas_X7_failInvalid : GoodIn wsX7_setCanvas wsX7_failInvalid := goodIn_r _ [13, 14, 216, 217, 218, 219, 220, 221, 222, 223] (by decide +kernel) (by decide +kernel)
set_option maxRecDepth 20000 in
theorem gX7_setCanvas_X7_failInvalid : GoodIn wsX7_setCanvas (wsV RX7 47 RX7 yX7_failInvalid wsX7_failInvalid) := goodIn_app (goodIn_of _ (by decide +kernel)) ggX7_setCanvas_X7_failInvalid
set_option maxRecDepth 20000 in
theorem ggX7_setCanvas_X6_push : GoodIn wsX7_setCanvas wsX6_push := goodIn_r _ [19, 20, 21, 22, 23, 24, 25, 26, 27, 28, 29, 30, 31, 32, 33, 34, 35, 36, 37, 38, 231, 232, 233, 224, 225, 226, 227, 228, 229, 230] (by decide +kernel) (by decide +kernel)
set_option maxRecDepth 20000 in
theorem gX7_setCanvas_X6_push : GoodIn wsX7_setCanvas (wsV RX7 58 RX6 yX6_push wsX6_push) := goodIn_app (goodIn_of _ (by decide +kernel)) ggX7_setCanvas_X6_push
set_option maxRecDepth 20000 in
theorem ggX7_setCanvas_X1_arrange : GoodIn wsX7_setCanvas wsX1_arrange := goodIn_r _ [43, 44, 45, 46, 47, 48, 49, 50, 51, 52, 42, 53, 54, 55, 56, 57, 58, 59, 60, 61, 62, 63, 64, 65, 66, 67, 68, 69, 70, 71, 72, 73, 74, 75, 76, 77, 78, 79, 80, 81, 82, 83, 84, 85, 86, 87, 88, 89, 90, 91, 92, 93, 94, 95, 96, 97, 98, 99, 100, 101, 102, 103, 104, 105, 106, 107, 108, 109, 110, 111, 112, 113, 114, 115, 116, 117, 118, 119, 120, 121, 122, 123, 124, 125, 126, 127, 128, 129, 130, 131, 132, 133, 134, 135, 136, 137, 138, 139, 140, 141, 142, 143, 144, 145, 146, 147, 148, 149, 150, 151, 152, 153, 154, 155, 156, 157, 158, 159, 160, 161, 162, 163, 164, 165, 166, 167, 168, 169, 170, 171, 172, 173, 174, 175, 176, 177, 178, 179, 180, 181, 182, 183, 184, 185, 186, 187, 188, 189, 190, 191, 192, 193, 194, 195, 196, 197, 198, 199, 200, 201, 202, 203, 204, 205, 206, 207, 208, 209, 210, 211, 212, 213, 214, 215, 234, 235, 236, 237, 238, 239, 240, 241, 224, 225, 226, 227, 228, 229, 230, 242, 243, 244, 245, 246, 247, 248, 249, 250, 251, 252, 253, 254, 255, 256, 257, 258, 259, 260, 261] (by decide +kernel) (by decide +kernel)
set_option maxRecDepth 20000 in
theorem gX7_setCanvas_X1_arrange : GoodIn wsX7_setCanvas (wsV RX7 36 RX1 yX1_arrange wsX1_arrange) := goodIn_app (goodIn_of _ (by decide +kernel)) ggX7_setCanvas_X1_arrange
theorem dX7_setCanvas_0 : decode cX7_setCanvas 0 = .ok (.iload_n 1, 1) := by decide +kernel
theorem dX7_setCanvas_1 : decode cX7_setCanvas 1 = .ok (.invokestatic 86, 3) := by decide +kernel
theorem dX7_setCanvas_4 : decode cX7_setCanvas 4 = .ok (.ifCond .eq 10, 3) := by decide +kernel
theorem dX7_setCanvas_7 : decode cX7_setCanvas 7 = .ok (.iload_n 2, 1) := by decide +kernel
theorem dX7_setCanvas_8 : decode cX7_setCanvas 8 = .ok (.invokestatic 86, 3) := by decide +kernel
theorem dX7_setCanvas_11 : decode cX7_setCanvas 11 = .ok (.ifCond .ne 8, 3) := by decide +kernel
theorem dX7_setCanvas_14 : decode cX7_setCanvas 14 = .ok (.aload_n 0, 1) := by decide +kernel
theorem dX7_setCanvas_15 : decode cX7_setCanvas 15 = .ok (.invokevirtual 47, 3) := by decide +kernel
theorem dX7_setCanvas_18 : decode cX7_setCanvas 18 = .ok (.ireturn, 1) := by decide +kernel
theorem dX7_setCanvas_19 : decode cX7_setCanvas 19 = .ok (.aload_n 0, 1) := by decide +kernel
theorem dX7_setCanvas_20 : decode cX7_setCanvas 20 = .ok (.getfield 26, 3) := by decide +kernel
theorem dX7_setCanvas_23 : decode cX7_setCanvas 23 = .ok (.aload_n 0, 1) := by decide +kernel
theorem dX7_setCanvas_24 : decode cX7_setCanvas 24 = .ok (.getfield 10, 3) := by decide +kernel
theorem dX7_setCanvas_27 : decode cX7_setCanvas 27 = .ok (.invokevirtual 58, 3) := by decide +kernel
theorem dX7_setCanvas_30 : decode cX7_setCanvas 30 = .ok (.sipush 1000, 3) := by decide +kernel
theorem dX7_setCanvas_33 : decode cX7_setCanvas 33 = .ok (.aload_n 0, 1) := by decide +kernel
theorem dX7_setCanvas_34 : decode cX7_setCanvas 34 = .ok (.getfield 10, 3) := by decide +kernel
theorem dX7_setCanvas_37 : decode cX7_setCanvas 37 = .ok (.getfield 89, 3) := by decide +kernel
theorem dX7_setCanvas_40 : decode cX7_setCanvas 40 = .ok (.imul, 1) := by decide +kernel
theorem dX7_setCanvas_41 : decode cX7_setCanvas 41 = .ok (.aload_n 0, 1) := by decide +kernel
theorem dX7_setCanvas_42 : decode cX7_setCanvas 42 = .ok (.getfield 10, 3) := by decide +kernel
theorem dX7_setCanvas_45 : decode cX7_setCanvas 45 = .ok (.getfield 92, 3) := by decide +kernel
theorem dX7_setCanvas_48 : decode cX7_setCanvas 48 = .ok (.iadd, 1) := by decide +kernel
theorem dX7_setCanvas_49 : decode cX7_setCanvas 49 = .ok (.istore_n 3, 1) := by decide +kernel
theorem dX7_setCanvas_50 : decode cX7_setCanvas 50 = .ok (.aload_n 0, 1) := by decide +kernel
theorem dX7_setCanvas_51 : decode cX7_setCanvas 51 = .ok (.getfield 10, 3) := by decide +kernel
theorem dX7_setCanvas_54 : decode cX7_setCanvas 54 = .ok (.iload_n 1, 1) := by decide +kernel
theorem dX7_setCanvas_55 : decode cX7_setCanvas 55 = .ok (.putfield 89, 3) := by decide +kernel
theorem dX7_setCanvas_58 : decode cX7_setCanvas 58 = .ok (.aload_n 0, 1) := by decide +kernel
theorem dX7_setCanvas_59 : decode cX7_setCanvas 59 = .ok (.getfield 10, 3) := by decide +kernel
theorem dX7_setCanvas_62 : decode cX7_setCanvas 62 = .ok (.iload_n 2, 1) := by decide +kernel
theorem dX7_setCanvas_63 : decode cX7_setCanvas 63 = .ok (.putfield 92, 3) := by decide +kernel
theorem dX7_setCanvas_66 : decode cX7_setCanvas 66 = .ok (.aload_n 0, 1) := by decide +kernel
theorem dX7_setCanvas_67 : decode cX7_setCanvas 67 = .ok (.getfield 19, 3) := by decide +kernel
theorem dX7_setCanvas_70 : decode cX7_setCanvas 70 = .ok (.aload_n 0, 1) := by decide +kernel
theorem dX7_setCanvas_71 : decode cX7_setCanvas 71 = .ok (.getfield 10, 3) := by decide +kernel
theorem dX7_setCanvas_74 : decode cX7_setCanvas 74 = .ok (.invokevirtual 36, 3) := by decide +kernel
theorem dX7_setCanvas_77 : decode cX7_setCanvas 77 = .ok (.iload_n 3, 1) := by decide +kernel
theorem dX7_setCanvas_78 : decode cX7_setCanvas 78 = .ok (.ireturn, 1) := by decide +kernel
set_option maxRecDepth 20000 in
theorem ggX7_setPadding_X7_failInvalid : GoodIn wsX7_setPadding wsX7_failInvalid := goodIn_r _ [9, 10, 212, 213, 214, 215, 216, 217, 218, 219] (by decide +kernel) (by decide +kernel)
set_option maxRecDepth 20000 in
theorem gX7_setPadding_X7_failInvalid : GoodIn wsX7_setPadding (wsV RX7 47 RX7 yX7_failInvalid wsX7_failInvalid) := goodIn_app (goodIn_of _ (by decide +kernel)) ggX7_setPadding_X7_failInvalid
set_option maxRecDepth 20000 in
theorem ggX7_setPadding_X6_push : GoodIn wsX7_setPadding wsX6_push := goodIn_r _ [15, 16, 17, 18, 19, 20, 21, 22, 23, 24, 25, 26, 27, 28, 29, 30, 31, 32, 33, 34, 227, 228, 229, 220, 221, 222, 223, 224, 225, 226] (by decide +kernel) (by decide +kernel)
set_option maxRecDepth 20000 in
theorem gX7_setPadding_X6_push : GoodIn wsX7_setPadding (wsV RX7 58 RX6 yX6_push wsX6_push) := goodIn_app (goodIn_of _ (by decide +kernel)) ggX7_setPadding_X6_push
set_option maxRecDepth 20000 in
theorem ggX7_setPadding_X1_arrange : GoodIn wsX7_setPadding wsX1_arrange := goodIn_r _ [39, 40, 41, 42, 43, 44, 45, 46, 47, 48, 38, 49, 50, 51, 52, 53, 54, 55, 56, 57, 58, 59, 60, 61, 62, 63, 64, 65, 66, 67, 68, 69, 70, 71, 72, 73, 74, 75, 76, 77, 78, 79, 80, 81, 82, 83, 84, 85, 86, 87, 88, 89, 90, 91, 92, 93, 94, 95, 96, 97, 98, 99, 100, 101, 102, 103, 104, 105, 106, 107, 108, 109, 110, 111, 112, 113, 114, 115, 116, 117, 118, 119, 120, 121, 122, 123, 124, 125, 126, 127, 128, 129, 130, 131, 132, 133, 134, 135, 136, 137, 138, 139, 140, 141, 142, 143, 144, 145, 146, 147, 148, 149, 150, 151, 152, 153, 154, 155, 156, 157, 158, 159, 160, 161, 162, 163, 164, 165, 166, 167, 168, 169, 170, 171, 172, 173, 174, 175, 176, 177, 178, 179, 180, 181, 182, 183, 184, 185, 186, 187, 188, 189, 190, 191, 192, 193, 194, 195, 196, 197, 198, 199, 200, 201, 202, 203, 204, 205, 206, 207, 208, 209, 210, 211, 230, 231, 232, 233, 234, 235, 236, 237, 220, 221, 222, 223, 224, 225, 226, 238, 239, 240, 241, 242, 243, 244, 245, 246, 247, 248, 249, 250, 251, 252, 253, 254, 255, 256, 257] (by decide +kernel) (by decide +kernel)
set_option maxRecDepth 20000 in
theorem gX7_setPadding_X1_arrange : GoodIn wsX7_setPadding (wsV RX7 36 RX1 yX1_arrange wsX1_arrange) := goodIn_app (goodIn_of _ (by decide +kernel)) ggX7_setPadding_X1_arrange
theorem dX7_setPadding_0 : decode cX7_setPadding 0 = .ok (.iload_n 1, 1) := by decide +kernel
theorem dX7_setPadding_1 : decode cX7_setPadding 1 = .ok (.ifCond .lt 8, 3) := by decide +kernel
theorem dX7_setPadding_4 : decode cX7_setPadding 4 = .ok (.iload_n 1, 1) := by decide +kernel
theorem dX7_setPadding_5 : decode cX7_setPadding 5 = .ok (.iconst 3, 1) := by decide +kernel
theorem dX7_setPadding_6 : decode cX7_setPadding 6 = .ok (.if_icmp .le 8, 3) := by decide +kernel
theorem dX7_setPadding_9 : decode cX7_setPadding 9 = .ok (.aload_n 0, 1) := by decide +kernel
theorem dX7_setPadding_10 : decode cX7_setPadding 10 = .ok (.invokevirtual 47, 3) := by decide +kernel
theorem dX7_setPadding_13 : decode cX7_setPadding 13 = .ok (.ireturn, 1) := by decide +kernel
theorem dX7_setPadding_14 : decode cX7_setPadding 14 = .ok (.aload_n 0, 1) := by decide +kernel
theorem dX7_setPadding_15 : decode cX7_setPadding 15 = .ok (.getfield 26, 3) := by decide +kernel
theorem dX7_setPadding_18 : decode cX7_setPadding 18 = .ok (.aload_n 0, 1) := by decide +kernel
theorem dX7_setPadding_19 : decode cX7_setPadding 19 = .ok (.getfield 10, 3) := by decide +kernel
theorem dX7_setPadding_22 : decode cX7_setPadding 22 = .ok (.invokevirtual 58, 3) := by decide +kernel
theorem dX7_setPadding_25 : decode cX7_setPadding 25 = .ok (.aload_n 0, 1) := by decide +kernel
theorem dX7_setPadding_26 : decode cX7_setPadding 26 = .ok (.getfield 10, 3) := by decide +kernel
theorem dX7_setPadding_29 : decode cX7_setPadding 29 = .ok (.getfield 95, 3) := by decide +kernel
theorem dX7_setPadding_32 : decode cX7_setPadding 32 = .ok (.istore_n 2, 1) := by decide +kernel
theorem dX7_setPadding_33 : decode cX7_setPadding 33 = .ok (.aload_n 0, 1) := by decide +kernel
theorem dX7_setPadding_34 : decode cX7_setPadding 34 = .ok (.getfield 10, 3) := by decide +kernel
theorem dX7_setPadding_37 : decode cX7_setPadding 37 = .ok (.iload_n 1, 1) := by decide +kernel
theorem dX7_setPadding_38 : decode cX7_setPadding 38 = .ok (.putfield 95, 3) := by decide +kernel
theorem dX7_setPadding_41 : decode cX7_setPadding 41 = .ok (.aload_n 0, 1) := by decide +kernel
theorem dX7_setPadding_42 : decode cX7_setPadding 42 = .ok (.getfield 19, 3) := by decide +kernel
theorem dX7_setPadding_45 : decode cX7_setPadding 45 = .ok (.aload_n 0, 1) := by decide +kernel
theorem dX7_setPadding_46 : decode cX7_setPadding 46 = .ok (.getfield 10, 3) := by decide +kernel
theorem dX7_setPadding_49 : decode cX7_setPadding 49 = .ok (.invokevirtual 36, 3) := by decide +kernel
theorem dX7_setPadding_52 : decode cX7_setPadding 52 = .ok (.iload_n 2, 1) := by decide +kernel
theorem dX7_setPadding_53 : decode cX7_setPadding 53 = .ok (.ireturn, 1) := by decide +kernel
set_option maxRecDepth 20000 in
theorem ggX7_setMode_X7_failInvalid : GoodIn wsX7_setMode wsX7_failInvalid := goodIn_r _ [9, 10, 212, 213, 214, 215, 216, 217, 218, 219] (by decide +kernel) (by decide +kernel)
set_option maxRecDepth 20000 in
theorem gX7_setMode_X7_failInvalid : GoodIn wsX7_setMode (wsV RX7 47 RX7 yX7_failInvalid wsX7_failInvalid) := goodIn_app (goodIn_of _ (by decide +kernel)) ggX7_setMode_X7_failInvalid
set_option maxRecDepth 20000 in
theorem ggX7_setMode_X6_push : GoodIn wsX7_setMode wsX6_push := goodIn_r _ [15, 16, 17, 18, 19, 20, 21, 22, 23, 24, 25, 26, 27, 28, 29, 30, 31, 32, 33, 34, 227, 228, 229, 220, 221, 222, 223, 224, 225, 226] (by decide +kernel) (by decide +kernel)
set_option maxRecDepth 20000 in
theorem gX7_setMode_X6_push : GoodIn wsX7_setMode (wsV RX7 58 RX6 yX6_push wsX6_push) := goodIn_app (goodIn_of _ (by decide +kernel)) ggX7_setMode_X6_push
set_option maxRecDepth 20000 in
theorem ggX7_setMode_X1_arrange : GoodIn wsX7_setMode wsX1_arrange := goodIn_r _ [39, 40, 41, 42, 43, 44, 45, 46, 47, 48, 38, 49, 50, 51, 52, 53, 54, 55, 56, 57, 58, 59, 60, 61, 62, 63, 64, 65, 66, 67, 68, 69, 70, 71, 72, 73, 74, 75, 76, 77, 78, 79, 80, 81, 82, 83, 84, 85, 86, 87, 88, 89, 90, 91, 92, 93, 94, 95, 96, 97, 98, 99, 100, 101, 102, 103, 104, 105, 106, 107, 108, 109, 110, 111, 112, 113, 114, 115, 116, 117, 118, 119, 120, 121, 122, 123, 124, 125, 126, 127, 128, 129, 130, 131, 132, 133, 134, 135, 136, 137, 138, 139, 140, 141, 142, 143, 144, 145, 146, 147, 148, 149, 150, 151, 152, 153, 154, 155, 156, 157, 158, 159, 160, 161, 162, 163, 164, 165, 166, 167, 168, 169, 170, 171, 172, 173, 174, 175, 176, 177, 178, 179, 180, 181, 182, 183, 184, 185, 186, 187, 188, 189, 190, 191, 192, 193, 194, 195, 196, 197, 198, 199, 200, 201, 202, 203, 204, 205, 206, 207, 208, 209, 210, 211, 230, 231, 232, 233, 234, 235, 236, 237, 220, 221, 222, 223, 224, 225, 226, 238, 239, 240, 241, 242, 243, 244, 245, 246, 247, 248, 249, 250, 251, 252, 253, 254, 255, 256, 257] (by decide +kernel) (by decide +kernel)
set_option maxRecDepth 20000 in
theorem gX7_setMode_X1_arrange : GoodIn wsX7_setMode (wsV RX7 36 RX1 yX1_arrange wsX1_arrange) := goodIn_app (goodIn_of _ (by decide +kernel)) ggX7_setMode_X1_arrange
theorem dX7_setMode_0 : decode cX7_setMode 0 = .ok (.iload_n 1, 1) := by decide +kernel
theorem dX7_setMode_1 : decode cX7_setMode 1 = .ok (.ifCond .eq 18, 3) := by decide +kernel
theorem dX7_setMode_4 : decode cX7_setMode 4 = .ok (.iload_n 1, 1) := by decide +kernel
theorem dX7_setMode_5 : decode cX7_setMode 5 = .ok (.iconst 1, 1) := by decide +kernel
theorem dX7_setMode_6 : decode cX7_setMode 6 = .ok (.if_icmp .eq 13, 3) := by decide +kernel
theorem dX7_setMode_9 : decode cX7_setMode 9 = .ok (.iload_n 1, 1) := by decide +kernel
theorem dX7_setMode_10 : decode cX7_setMode 10 = .ok (.iconst 2, 1) := by decide +kernel
theorem dX7_setMode_11 : decode cX7_setMode 11 = .ok (.if_icmp .eq 8, 3) := by decide +kernel
theorem dX7_setMode_14 : decode cX7_setMode 14 = .ok (.aload_n 0, 1) := by decide +kernel
theorem dX7_setMode_15 : decode cX7_setMode 15 = .ok (.invokevirtual 47, 3) := by decide +kernel
theorem dX7_setMode_18 : decode cX7_setMode 18 = .ok (.ireturn, 1) := by decide +kernel
theorem dX7_setMode_19 : decode cX7_setMode 19 = .ok (.aload_n 0, 1) := by decide +kernel
theorem dX7_setMode_20 : decode cX7_setMode 20 = .ok (.getfield 26, 3) := by decide +kernel
theorem dX7_setMode_23 : decode cX7_setMode 23 = .ok (.aload_n 0, 1) := by decide +kernel
theorem dX7_setMode_24 : decode cX7_setMode 24 = .ok (.getfield 10, 3) := by decide +kernel
theorem dX7_setMode_27 : decode cX7_setMode 27 = .ok (.invokevirtual 58, 3) := by decide +kernel
theorem dX7_setMode_30 : decode cX7_setMode 30 = .ok (.aload_n 0, 1) := by decide +kernel
theorem dX7_setMode_31 : decode cX7_setMode 31 = .ok (.getfield 10, 3) := by decide +kernel
theorem dX7_setMode_34 : decode cX7_setMode 34 = .ok (.getfield 98, 3) := by decide +kernel
theorem dX7_setMode_37 : decode cX7_setMode 37 = .ok (.istore_n 2, 1) := by decide +kernel
theorem dX7_setMode_38 : decode cX7_setMode 38 = .ok (.aload_n 0, 1) := by decide +kernel
theorem dX7_setMode_39 : decode cX7_setMode 39 = .ok (.getfield 10, 3) := by decide +kernel
theorem dX7_setMode_42 : decode cX7_setMode 42 = .ok (.iload_n 1, 1) := by decide +kernel
theorem dX7_setMode_43 : decode cX7_setMode 43 = .ok (.putfield 98, 3) := by decide +kernel
theorem dX7_setMode_46 : decode cX7_setMode 46 = .ok (.aload_n 0, 1) := by decide +kernel
theorem dX7_setMode_47 : decode cX7_setMode 47 = .ok (.getfield 19, 3) := by decide +kernel
theorem dX7_setMode_50 : decode cX7_setMode 50 = .ok (.aload_n 0, 1) := by decide +kernel
theorem dX7_setMode_51 : decode cX7_setMode 51 = .ok (.getfield 10, 3) := by decide +kernel
theorem dX7_setMode_54 : decode cX7_setMode 54 = .ok (.invokevirtual 36, 3) := by decide +kernel
theorem dX7_setMode_57 : decode cX7_setMode 57 = .ok (.iload_n 2, 1) := by decide +kernel
theorem dX7_setMode_58 : decode cX7_setMode 58 = .ok (.ireturn, 1) := by decide +kernel
theorem dX7_nodeCount_0 : decode cX7_nodeCount 0 = .ok (.aload_n 0, 1) := by decide +kernel
theorem dX7_nodeCount_1 : decode cX7_nodeCount 1 = .ok (.getfield 10, 3) := by decide +kernel
theorem dX7_nodeCount_4 : decode cX7_nodeCount 4 = .ok (.getfield 51, 3) := by decide +kernel
theorem dX7_nodeCount_7 : decode cX7_nodeCount 7 = .ok (.ireturn, 1) := by decide +kernel
set_option maxRecDepth 20000 in
theorem ggX7_size_X5_has : GoodIn wsX7_size wsX5_has := goodIn_r _ [8, 9, 32, 33, 34, 35, 36, 37, 38] (by decide +kernel) (by decide +kernel)
set_option maxRecDepth 20000 in
theorem gX7_size_X5_has : GoodIn wsX7_size (wsV RX7 40 RX5 yX5_has wsX5_has) := goodIn_app (goodIn_of _ (by decide +kernel)) ggX7_size_X5_has
set_option maxRecDepth 20000 in
theorem ggX7_size_X7_failInvalid : GoodIn wsX7_size wsX7_failInvalid := goodIn_r _ [14, 15, 16, 17, 18, 19, 20, 21, 22, 23] (by decide +kernel) (by decide +kernel)
set_option maxRecDepth 20000 in
theorem gX7_size_X7_failInvalid : GoodIn wsX7_size (wsV RX7 47 RX7 yX7_failInvalid wsX7_failInvalid) := goodIn_app (goodIn_of _ (by decide +kernel)) ggX7_size_X7_failInvalid
theorem dX7_size_0 : decode cX7_size 0 = .ok (.aload_n 0, 1) := by decide +kernel
theorem dX7_size_1 : decode cX7_size 1 = .ok (.getfield 10, 3) := by decide +kernel
theorem dX7_size_4 : decode cX7_size 4 = .ok (.iload_n 1, 1) := by decide +kernel
theorem dX7_size_5 : decode cX7_size 5 = .ok (.invokevirtual 40, 3) := by decide +kernel
theorem dX7_size_8 : decode cX7_size 8 = .ok (.ifCond .eq 15, 3) := by decide +kernel
theorem dX7_size_11 : decode cX7_size 11 = .ok (.aload_n 0, 1) := by decide +kernel
theorem dX7_size_12 : decode cX7_size 12 = .ok (.getfield 19, 3) := by decide +kernel
theorem dX7_size_15 : decode cX7_size 15 = .ok (.getfield 101, 3) := by decide +kernel
theorem dX7_size_18 : decode cX7_size 18 = .ok (.iload_n 1, 1) := by decide +kernel
theorem dX7_size_19 : decode cX7_size 19 = .ok (.iaload, 1) := by decide +kernel
theorem dX7_size_20 : decode cX7_size 20 = .ok (.goto 7, 3) := by decide +kernel
theorem dX7_size_23 : decode cX7_size 23 = .ok (.aload_n 0, 1) := by decide +kernel
theorem dX7_size_24 : decode cX7_size 24 = .ok (.invokevirtual 47, 3) := by decide +kernel
theorem dX7_size_27 : decode cX7_size 27 = .ok (.ireturn, 1) := by decide +kernel
set_option maxRecDepth 20000 in
theorem ggX7_parent_X5_has : GoodIn wsX7_parent wsX5_has := goodIn_r _ [7, 8, 23, 24, 25, 26, 27, 28, 29] (by decide +kernel) (by decide +kernel)
set_option maxRecDepth 20000 in
theorem gX7_parent_X5_has : GoodIn wsX7_parent (wsV RX7 40 RX5 yX5_has wsX5_has) := goodIn_app (goodIn_of _ (by decide +kernel)) ggX7_parent_X5_has
set_option maxRecDepth 20000 in
theorem ggX7_parent_X7_failInvalid : GoodIn wsX7_parent wsX7_failInvalid := goodIn_r _ [13, 14, 15, 16, 17, 18, 19, 20, 21, 22] (by decide +kernel) (by decide +kernel)
set_option maxRecDepth 20000 in
theorem gX7_parent_X7_failInvalid : GoodIn wsX7_parent (wsV RX7 47 RX7 yX7_failInvalid wsX7_failInvalid) := goodIn_app (goodIn_of _ (by decide +kernel)) ggX7_parent_X7_failInvalid
theorem dX7_parent_0 : decode cX7_parent 0 = .ok (.aload_n 0, 1) := by decide +kernel
theorem dX7_parent_1 : decode cX7_parent 1 = .ok (.getfield 10, 3) := by decide +kernel
theorem dX7_parent_4 : decode cX7_parent 4 = .ok (.iload_n 1, 1) := by decide +kernel
theorem dX7_parent_5 : decode cX7_parent 5 = .ok (.invokevirtual 40, 3) := by decide +kernel
theorem dX7_parent_8 : decode cX7_parent 8 = .ok (.ifCond .eq 15, 3) := by decide +kernel
theorem dX7_parent_11 : decode cX7_parent 11 = .ok (.aload_n 0, 1) := by decide +kernel
theorem dX7_parent_12 : decode cX7_parent 12 = .ok (.getfield 10, 3) := by decide +kernel
theorem dX7_parent_15 : decode cX7_parent 15 = .ok (.getfield 83, 3) := by decide +kernel
theorem dX7_parent_18 : decode cX7_parent 18 = .ok (.iload_n 1, 1) := by decide +kernel
theorem dX7_parent_19 : decode cX7_parent 19 = .ok (.iaload, 1) := by decide +kernel
theorem dX7_parent_20 : decode cX7_parent 20 = .ok (.goto 7, 3) := by decide +kernel
theorem dX7_parent_23 : decode cX7_parent 23 = .ok (.aload_n 0, 1) := by decide +kernel
theorem dX7_parent_24 : decode cX7_parent 24 = .ok (.invokevirtual 47, 3) := by decide +kernel
theorem dX7_parent_27 : decode cX7_parent 27 = .ok (.ireturn, 1) := by decide +kernel
set_option maxRecDepth 20000 in
theorem ggX7_depth_X5_has : GoodIn wsX7_depth wsX5_has := goodIn_r _ [8, 9, 32, 33, 34, 35, 36, 37, 38] (by decide +kernel) (by decide +kernel)
set_option maxRecDepth 20000 in
theorem gX7_depth_X5_has : GoodIn wsX7_depth (wsV RX7 40 RX5 yX5_has wsX5_has) := goodIn_app (goodIn_of _ (by decide +kernel)) ggX7_depth_X5_has
set_option maxRecDepth 20000 in
theorem ggX7_depth_X7_failInvalid : GoodIn wsX7_depth wsX7_failInvalid := goodIn_r _ [14, 15, 16, 17, 18, 19, 20, 21, 22, 23] (by decide +kernel) (by decide +kernel)
set_option maxRecDepth 20000 in
theorem gX7_depth_X7_failInvalid : GoodIn wsX7_depth (wsV RX7 47 RX7 yX7_failInvalid wsX7_failInvalid) := goodIn_app (goodIn_of _ (by decide +kernel)) ggX7_depth_X7_failInvalid
theorem dX7_depth_0 : decode cX7_depth 0 = .ok (.aload_n 0, 1) := by decide +kernel
theorem dX7_depth_1 : decode cX7_depth 1 = .ok (.getfield 10, 3) := by decide +kernel
theorem dX7_depth_4 : decode cX7_depth 4 = .ok (.iload_n 1, 1) := by decide +kernel
theorem dX7_depth_5 : decode cX7_depth 5 = .ok (.invokevirtual 40, 3) := by decide +kernel
theorem dX7_depth_8 : decode cX7_depth 8 = .ok (.ifCond .eq 15, 3) := by decide +kernel
theorem dX7_depth_11 : decode cX7_depth 11 = .ok (.aload_n 0, 1) := by decide +kernel
theorem dX7_depth_12 : decode cX7_depth 12 = .ok (.getfield 19, 3) := by decide +kernel
theorem dX7_depth_15 : decode cX7_depth 15 = .ok (.getfield 104, 3) := by decide +kernel
theorem dX7_depth_18 : decode cX7_depth 18 = .ok (.iload_n 1, 1) := by decide +kernel
theorem dX7_depth_19 : decode cX7_depth 19 = .ok (.iaload, 1) := by decide +kernel
theorem dX7_depth_20 : decode cX7_depth 20 = .ok (.goto 7, 3) := by decide +kernel
theorem dX7_depth_23 : decode cX7_depth 23 = .ok (.aload_n 0, 1) := by decide +kernel
theorem dX7_depth_24 : decode cX7_depth 24 = .ok (.invokevirtual 47, 3) := by decide +kernel
theorem dX7_depth_27 : decode cX7_depth 27 = .ok (.ireturn, 1) := by decide +kernel
set_option maxRecDepth 20000 in
theorem ggX7_leafCount_X1_isLeaf : GoodIn wsX7_leafCount wsX1_isLeaf := goodIn_r _ [8, 9, 25, 26, 27, 28, 29, 30, 31, 32] (by decide +kernel) (by decide +kernel)
set_option maxRecDepth 20000 in
theorem gX7_leafCount_X1_isLeaf : GoodIn wsX7_leafCount (wsV RX7 69 RX1 yX1_isLeaf wsX1_isLeaf) := goodIn_app (goodIn_of _ (by decide +kernel)) ggX7_leafCount_X1_isLeaf
theorem dX7_leafCount_0 : decode cX7_leafCount 0 = .ok (.iconst 0, 1) := by decide +kernel
theorem dX7_leafCount_1 : decode cX7_leafCount 1 = .ok (.istore_n 1, 1) := by decide +kernel
theorem dX7_leafCount_2 : decode cX7_leafCount 2 = .ok (.iconst 0, 1) := by decide +kernel
theorem dX7_leafCount_3 : decode cX7_leafCount 3 = .ok (.istore_n 2, 1) := by decide +kernel
theorem dX7_leafCount_4 : decode cX7_leafCount 4 = .ok (.iload_n 2, 1) := by decide +kernel
theorem dX7_leafCount_5 : decode cX7_leafCount 5 = .ok (.aload_n 0, 1) := by decide +kernel
theorem dX7_leafCount_6 : decode cX7_leafCount 6 = .ok (.getfield 10, 3) := by decide +kernel
theorem dX7_leafCount_9 : decode cX7_leafCount 9 = .ok (.getfield 51, 3) := by decide +kernel
theorem dX7_leafCount_12 : decode cX7_leafCount 12 = .ok (.if_icmp .ge 23, 3) := by decide +kernel
theorem dX7_leafCount_15 : decode cX7_leafCount 15 = .ok (.aload_n 0, 1) := by decide +kernel
theorem dX7_leafCount_16 : decode cX7_leafCount 16 = .ok (.getfield 19, 3) := by decide +kernel
theorem dX7_leafCount_19 : decode cX7_leafCount 19 = .ok (.iload_n 2, 1) := by decide +kernel
theorem dX7_leafCount_20 : decode cX7_leafCount 20 = .ok (.invokevirtual 69, 3) := by decide +kernel
theorem dX7_leafCount_23 : decode cX7_leafCount 23 = .ok (.ifCond .eq 6, 3) := by decide +kernel
theorem dX7_leafCount_26 : decode cX7_leafCount 26 = .ok (.iinc 1 1, 3) := by decide +kernel
theorem dX7_leafCount_29 : decode cX7_leafCount 29 = .ok (.iinc 2 1, 3) := by decide +kernel
theorem dX7_leafCount_32 : decode cX7_leafCount 32 = .ok (.goto (-28), 3) := by decide +kernel
theorem dX7_leafCount_35 : decode cX7_leafCount 35 = .ok (.iload_n 1, 1) := by decide +kernel
theorem dX7_leafCount_36 : decode cX7_leafCount 36 = .ok (.ireturn, 1) := by decide +kernel
set_option maxRecDepth 20000 in
theorem ggX7_x_X5_has : GoodIn wsX7_x wsX5_has := goodIn_r _ [9, 10, 37, 38, 39, 40, 41, 42, 43] (by decide +kernel) (by decide +kernel)
set_option maxRecDepth 20000 in
theorem gX7_x_X5_has : GoodIn wsX7_x (wsV RX7 40 RX5 yX5_has wsX5_has) := goodIn_app (goodIn_of _ (by decide +kernel)) ggX7_x_X5_has
set_option maxRecDepth 20000 in
theorem ggX7_x_X7_failInvalid : GoodIn wsX7_x wsX7_failInvalid := goodIn_r _ [15, 16, 17, 18, 19, 20, 21, 22, 23, 24] (by decide +kernel) (by decide +kernel)
set_option maxRecDepth 20000 in
theorem gX7_x_X7_failInvalid : GoodIn wsX7_x (wsV RX7 47 RX7 yX7_failInvalid wsX7_failInvalid) := goodIn_app (goodIn_of _ (by decide +kernel)) ggX7_x_X7_failInvalid
theorem dX7_x_0 : decode cX7_x 0 = .ok (.aload_n 0, 1) := by decide +kernel
theorem dX7_x_1 : decode cX7_x 1 = .ok (.getfield 10, 3) := by decide +kernel
theorem dX7_x_4 : decode cX7_x 4 = .ok (.iload_n 1, 1) := by decide +kernel
theorem dX7_x_5 : decode cX7_x 5 = .ok (.invokevirtual 40, 3) := by decide +kernel
theorem dX7_x_8 : decode cX7_x 8 = .ok (.ifCond .eq 18, 3) := by decide +kernel
theorem dX7_x_11 : decode cX7_x 11 = .ok (.aload_n 0, 1) := by decide +kernel
theorem dX7_x_12 : decode cX7_x 12 = .ok (.getfield 19, 3) := by decide +kernel
theorem dX7_x_15 : decode cX7_x 15 = .ok (.getfield 107, 3) := by decide +kernel
theorem dX7_x_18 : decode cX7_x 18 = .ok (.getfield 111, 3) := by decide +kernel
theorem dX7_x_21 : decode cX7_x 21 = .ok (.iload_n 1, 1) := by decide +kernel
theorem dX7_x_22 : decode cX7_x 22 = .ok (.iaload, 1) := by decide +kernel
theorem dX7_x_23 : decode cX7_x 23 = .ok (.goto 7, 3) := by decide +kernel
theorem dX7_x_26 : decode cX7_x 26 = .ok (.aload_n 0, 1) := by decide +kernel
theorem dX7_x_27 : decode cX7_x 27 = .ok (.invokevirtual 47, 3) := by decide +kernel
theorem dX7_x_30 : decode cX7_x 30 = .ok (.ireturn, 1) := by decide +kernel
set_option maxRecDepth 20000 in
theorem ggX7_y_X5_has : GoodIn wsX7_y wsX5_has := goodIn_r _ [9, 10, 37, 38, 39, 40, 41, 42, 43] (by decide +kernel) (by decide +kernel)
set_option maxRecDepth 20000 in
theorem gX7_y_X5_has : GoodIn wsX7_y (wsV RX7 40 RX5 yX5_has wsX5_has) := goodIn_app (goodIn_of _ (by decide +kernel)) ggX7_y_X5_has
set_option maxRecDepth 20000 in
theorem ggX7_y_X7_failInvalid : GoodIn wsX7_y wsX7_failInvalid := goodIn_r _ [15, 16, 17, 18, 19, 20, 21, 22, 23, 24] (by decide +kernel) (by decide +kernel)
set_option maxRecDepth 20000 in
theorem gX7_y_X7_failInvalid : GoodIn wsX7_y (wsV RX7 47 RX7 yX7_failInvalid wsX7_failInvalid) := goodIn_app (goodIn_of _ (by decide +kernel)) ggX7_y_X7_failInvalid
theorem dX7_y_0 : decode cX7_y 0 = .ok (.aload_n 0, 1) := by decide +kernel
theorem dX7_y_1 : decode cX7_y 1 = .ok (.getfield 10, 3) := by decide +kernel
theorem dX7_y_4 : decode cX7_y 4 = .ok (.iload_n 1, 1) := by decide +kernel
theorem dX7_y_5 : decode cX7_y 5 = .ok (.invokevirtual 40, 3) := by decide +kernel
theorem dX7_y_8 : decode cX7_y 8 = .ok (.ifCond .eq 18, 3) := by decide +kernel
theorem dX7_y_11 : decode cX7_y 11 = .ok (.aload_n 0, 1) := by decide +kernel
theorem dX7_y_12 : decode cX7_y 12 = .ok (.getfield 19, 3) := by decide +kernel
theorem dX7_y_15 : decode cX7_y 15 = .ok (.getfield 107, 3) := by decide +kernel
theorem dX7_y_18 : decode cX7_y 18 = .ok (.getfield 116, 3) := by decide +kernel
theorem dX7_y_21 : decode cX7_y 21 = .ok (.iload_n 1, 1) := by decide +kernel
theorem dX7_y_22 : decode cX7_y 22 = .ok (.iaload, 1) := by decide +kernel
theorem dX7_y_23 : decode cX7_y 23 = .ok (.goto 7, 3) := by decide +kernel
theorem dX7_y_26 : decode cX7_y 26 = .ok (.aload_n 0, 1) := by decide +kernel
theorem dX7_y_27 : decode cX7_y 27 = .ok (.invokevirtual 47, 3) := by decide +kernel
theorem dX7_y_30 : decode cX7_y 30 = .ok (.ireturn, 1) := by decide +kernel
set_option maxRecDepth 20000 in
theorem ggX7_width_X5_has : GoodIn wsX7_width wsX5_has := goodIn_r _ [9, 10, 37, 38, 39, 40, 41, 42, 43] (by decide +kernel) (by decide +kernel)
set_option maxRecDepth 20000 in
theorem gX7_width_X5_has : GoodIn wsX7_width (wsV RX7 40 RX5 yX5_has wsX5_has) := goodIn_app (goodIn_of _ (by decide +kernel)) ggX7_width_X5_has
set_option maxRecDepth 20000 in
theorem ggX7_width_X7_failInvalid : GoodIn wsX7_width wsX7_failInvalid := goodIn_r _ [15, 16, 17, 18, 19, 20, 21, 22, 23, 24] (by decide +kernel) (by decide +kernel)
set_option maxRecDepth 20000 in
theorem gX7_width_X7_failInvalid : GoodIn wsX7_width (wsV RX7 47 RX7 yX7_failInvalid wsX7_failInvalid) := goodIn_app (goodIn_of _ (by decide +kernel)) ggX7_width_X7_failInvalid
theorem dX7_width_0 : decode cX7_width 0 = .ok (.aload_n 0, 1) := by decide +kernel
theorem dX7_width_1 : decode cX7_width 1 = .ok (.getfield 10, 3) := by decide +kernel
theorem dX7_width_4 : decode cX7_width 4 = .ok (.iload_n 1, 1) := by decide +kernel
theorem dX7_width_5 : decode cX7_width 5 = .ok (.invokevirtual 40, 3) := by decide +kernel
theorem dX7_width_8 : decode cX7_width 8 = .ok (.ifCond .eq 18, 3) := by decide +kernel
theorem dX7_width_11 : decode cX7_width 11 = .ok (.aload_n 0, 1) := by decide +kernel
theorem dX7_width_12 : decode cX7_width 12 = .ok (.getfield 19, 3) := by decide +kernel
theorem dX7_width_15 : decode cX7_width 15 = .ok (.getfield 107, 3) := by decide +kernel
theorem dX7_width_18 : decode cX7_width 18 = .ok (.getfield 119, 3) := by decide +kernel
theorem dX7_width_21 : decode cX7_width 21 = .ok (.iload_n 1, 1) := by decide +kernel
theorem dX7_width_22 : decode cX7_width 22 = .ok (.iaload, 1) := by decide +kernel
theorem dX7_width_23 : decode cX7_width 23 = .ok (.goto 7, 3) := by decide +kernel
theorem dX7_width_26 : decode cX7_width 26 = .ok (.aload_n 0, 1) := by decide +kernel
theorem dX7_width_27 : decode cX7_width 27 = .ok (.invokevirtual 47, 3) := by decide +kernel
theorem dX7_width_30 : decode cX7_width 30 = .ok (.ireturn, 1) := by decide +kernel
set_option maxRecDepth 20000 in
theorem ggX7_height_X5_has : GoodIn wsX7_height wsX5_has := goodIn_r _ [9, 10, 37, 38, 39, 40, 41, 42, 43] (by decide +kernel) (by decide +kernel)
set_option maxRecDepth 20000 in
theorem gX7_height_X5_has : GoodIn wsX7_height (wsV RX7 40 RX5 yX5_has wsX5_has) := goodIn_app (goodIn_of _ (by decide +kernel)) ggX7_height_X5_has
set_option maxRecDepth 20000 in
theorem ggX7_height_X7_failInvalid : GoodIn wsX7_height wsX7_failInvalid := goodIn_r _ [15, 16, 17, 18, 19, 20, 21, 22, 23, 24] (by decide +kernel) (by decide +kernel)
set_option maxRecDepth 20000 in
theorem gX7_height_X7_failInvalid : GoodIn wsX7_height (wsV RX7 47 RX7 yX7_failInvalid wsX7_failInvalid) := goodIn_app (goodIn_of _ (by decide +kernel)) ggX7_height_X7_failInvalid
theorem dX7_height_0 : decode cX7_height 0 = .ok (.aload_n 0, 1) := by decide +kernel
theorem dX7_height_1 : decode cX7_height 1 = .ok (.getfield 10, 3) := by decide +kernel
theorem dX7_height_4 : decode cX7_height 4 = .ok (.iload_n 1, 1) := by decide +kernel
theorem dX7_height_5 : decode cX7_height 5 = .ok (.invokevirtual 40, 3) := by decide +kernel
theorem dX7_height_8 : decode cX7_height 8 = .ok (.ifCond .eq 18, 3) := by decide +kernel
theorem dX7_height_11 : decode cX7_height 11 = .ok (.aload_n 0, 1) := by decide +kernel
theorem dX7_height_12 : decode cX7_height 12 = .ok (.getfield 19, 3) := by decide +kernel
theorem dX7_height_15 : decode cX7_height 15 = .ok (.getfield 107, 3) := by decide +kernel
theorem dX7_height_18 : decode cX7_height 18 = .ok (.getfield 122, 3) := by decide +kernel
theorem dX7_height_21 : decode cX7_height 21 = .ok (.iload_n 1, 1) := by decide +kernel
theorem dX7_height_22 : decode cX7_height 22 = .ok (.iaload, 1) := by decide +kernel
theorem dX7_height_23 : decode cX7_height 23 = .ok (.goto 7, 3) := by decide +kernel
theorem dX7_height_26 : decode cX7_height 26 = .ok (.aload_n 0, 1) := by decide +kernel
theorem dX7_height_27 : decode cX7_height 27 = .ok (.invokevirtual 47, 3) := by decide +kernel
theorem dX7_height_30 : decode cX7_height 30 = .ok (.ireturn, 1) := by decide +kernel
set_option maxRecDepth 20000 in
theorem ggX7_isHidden_X5_has : GoodIn wsX7_isHidden wsX5_has := goodIn_r _ [6, 7, 28, 29, 30, 31, 32, 33, 34] (by decide +kernel) (by decide +kernel)
set_option maxRecDepth 20000 in
theorem gX7_isHidden_X5_has : GoodIn wsX7_isHidden (wsV RX7 40 RX5 yX5_has wsX5_has) := goodIn_app (goodIn_of _ (by decide +kernel)) ggX7_isHidden_X5_has
set_option maxRecDepth 20000 in
theorem ggX7_isHidden_X7_hiddenFlag : GoodIn wsX7_isHidden wsX7_hiddenFlag := goodIn_r _ [12, 13, 14, 20, 21, 22, 23, 24, 25, 26, 27, 35, 36, 37, 38, 39, 40, 41, 42] (by decide +kernel) (by decide +kernel)
set_option maxRecDepth 20000 in
theorem gX7_isHidden_X7_hiddenFlag : GoodIn wsX7_isHidden (wsV RX7 125 RX7 yX7_hiddenFlag wsX7_hiddenFlag) := goodIn_app (goodIn_of _ (by decide +kernel)) ggX7_isHidden_X7_hiddenFlag
set_option maxRecDepth 20000 in
theorem ggX7_isHidden_X7_failInvalid : GoodIn wsX7_isHidden wsX7_failInvalid := goodIn_r _ [18, 19, 20, 21, 22, 23, 24, 25, 26, 27] (by decide +kernel) (by decide +kernel)
set_option maxRecDepth 20000 in
theorem gX7_isHidden_X7_failInvalid : GoodIn wsX7_isHidden (wsV RX7 47 RX7 yX7_failInvalid wsX7_failInvalid) := goodIn_app (goodIn_of _ (by decide +kernel)) ggX7_isHidden_X7_failInvalid
theorem dX7_isHidden_0 : decode cX7_isHidden 0 = .ok (.aload_n 0, 1) := by decide +kernel
theorem dX7_isHidden_1 : decode cX7_isHidden 1 = .ok (.getfield 10, 3) := by decide +kernel
theorem dX7_isHidden_4 : decode cX7_isHidden 4 = .ok (.iload_n 1, 1) := by decide +kernel
theorem dX7_isHidden_5 : decode cX7_isHidden 5 = .ok (.invokevirtual 40, 3) := by decide +kernel
theorem dX7_isHidden_8 : decode cX7_isHidden 8 = .ok (.ifCond .eq 11, 3) := by decide +kernel
theorem dX7_isHidden_11 : decode cX7_isHidden 11 = .ok (.aload_n 0, 1) := by decide +kernel
theorem dX7_isHidden_12 : decode cX7_isHidden 12 = .ok (.iload_n 1, 1) := by decide +kernel
theorem dX7_isHidden_13 : decode cX7_isHidden 13 = .ok (.invokevirtual 125, 3) := by decide +kernel
theorem dX7_isHidden_16 : decode cX7_isHidden 16 = .ok (.goto 7, 3) := by decide +kernel
theorem dX7_isHidden_19 : decode cX7_isHidden 19 = .ok (.aload_n 0, 1) := by decide +kernel
theorem dX7_isHidden_20 : decode cX7_isHidden 20 = .ok (.invokevirtual 47, 3) := by decide +kernel
theorem dX7_isHidden_23 : decode cX7_isHidden 23 = .ok (.ireturn, 1) := by decide +kernel
set_option maxRecDepth 20000 in
theorem ggX7_nodeAt_X7_failInvalid : GoodIn wsX7_nodeAt wsX7_failInvalid := goodIn_r _ [12, 13, 23, 24, 25, 26, 27, 28, 29, 30] (by decide +kernel) (by decide +kernel)
set_option maxRecDepth 20000 in
theorem gX7_nodeAt_X7_failInvalid : GoodIn wsX7_nodeAt (wsV RX7 47 RX7 yX7_failInvalid wsX7_failInvalid) := goodIn_app (goodIn_of _ (by decide +kernel)) ggX7_nodeAt_X7_failInvalid
set_option maxRecDepth 20000 in
theorem ggX7_nodeAt_X3_contain : GoodIn wsX7_nodeAt wsX3_contain := goodIn_r _ [18, 19, 20, 21, 22, 46, 47, 48, 49] (by decide +kernel) (by decide +kernel)
set_option maxRecDepth 20000 in
theorem gX7_nodeAt_X3_contain : GoodIn wsX7_nodeAt (wsV RX7 129 RX3 yX3_contain wsX3_contain) := goodIn_app (goodIn_of _ (by decide +kernel)) ggX7_nodeAt_X3_contain
theorem dX7_nodeAt_0 : decode cX7_nodeAt 0 = .ok (.iload_n 1, 1) := by decide +kernel
theorem dX7_nodeAt_1 : decode cX7_nodeAt 1 = .ok (.ifCond .lt 29, 3) := by decide +kernel
theorem dX7_nodeAt_4 : decode cX7_nodeAt 4 = .ok (.iload_n 1, 1) := by decide +kernel
theorem dX7_nodeAt_5 : decode cX7_nodeAt 5 = .ok (.aload_n 0, 1) := by decide +kernel
theorem dX7_nodeAt_6 : decode cX7_nodeAt 6 = .ok (.getfield 10, 3) := by decide +kernel
theorem dX7_nodeAt_9 : decode cX7_nodeAt 9 = .ok (.getfield 89, 3) := by decide +kernel
theorem dX7_nodeAt_12 : decode cX7_nodeAt 12 = .ok (.if_icmp .ge 18, 3) := by decide +kernel
theorem dX7_nodeAt_15 : decode cX7_nodeAt 15 = .ok (.iload_n 2, 1) := by decide +kernel
theorem dX7_nodeAt_16 : decode cX7_nodeAt 16 = .ok (.ifCond .lt 14, 3) := by decide +kernel
theorem dX7_nodeAt_19 : decode cX7_nodeAt 19 = .ok (.iload_n 2, 1) := by decide +kernel
theorem dX7_nodeAt_20 : decode cX7_nodeAt 20 = .ok (.aload_n 0, 1) := by decide +kernel
theorem dX7_nodeAt_21 : decode cX7_nodeAt 21 = .ok (.getfield 10, 3) := by decide +kernel
theorem dX7_nodeAt_24 : decode cX7_nodeAt 24 = .ok (.getfield 92, 3) := by decide +kernel
theorem dX7_nodeAt_27 : decode cX7_nodeAt 27 = .ok (.if_icmp .lt 8, 3) := by decide +kernel
theorem dX7_nodeAt_30 : decode cX7_nodeAt 30 = .ok (.aload_n 0, 1) := by decide +kernel
theorem dX7_nodeAt_31 : decode cX7_nodeAt 31 = .ok (.invokevirtual 47, 3) := by decide +kernel
theorem dX7_nodeAt_34 : decode cX7_nodeAt 34 = .ok (.ireturn, 1) := by decide +kernel
theorem dX7_nodeAt_35 : decode cX7_nodeAt 35 = .ok (.iconst 0, 1) := by decide +kernel
theorem dX7_nodeAt_36 : decode cX7_nodeAt 36 = .ok (.istore_n 3, 1) := by decide +kernel
theorem dX7_nodeAt_37 : decode cX7_nodeAt 37 = .ok (.iconst 0, 1) := by decide +kernel
theorem dX7_nodeAt_38 : decode cX7_nodeAt 38 = .ok (.istore 4, 2) := by decide +kernel
theorem dX7_nodeAt_40 : decode cX7_nodeAt 40 = .ok (.iload 4, 2) := by decide +kernel
theorem dX7_nodeAt_42 : decode cX7_nodeAt 42 = .ok (.aload_n 0, 1) := by decide +kernel
theorem dX7_nodeAt_43 : decode cX7_nodeAt 43 = .ok (.getfield 10, 3) := by decide +kernel
theorem dX7_nodeAt_46 : decode cX7_nodeAt 46 = .ok (.getfield 51, 3) := by decide +kernel
theorem dX7_nodeAt_49 : decode cX7_nodeAt 49 = .ok (.if_icmp .ge 51, 3) := by decide +kernel
theorem dX7_nodeAt_52 : decode cX7_nodeAt 52 = .ok (.aload_n 0, 1) := by decide +kernel
theorem dX7_nodeAt_53 : decode cX7_nodeAt 53 = .ok (.getfield 19, 3) := by decide +kernel
theorem dX7_nodeAt_56 : decode cX7_nodeAt 56 = .ok (.getfield 107, 3) := by decide +kernel
theorem dX7_nodeAt_59 : decode cX7_nodeAt 59 = .ok (.iload 4, 2) := by decide +kernel
theorem dX7_nodeAt_61 : decode cX7_nodeAt 61 = .ok (.iload_n 1, 1) := by decide +kernel
theorem dX7_nodeAt_62 : decode cX7_nodeAt 62 = .ok (.iload_n 2, 1) := by decide +kernel
theorem dX7_nodeAt_63 : decode cX7_nodeAt 63 = .ok (.invokevirtual 129, 3) := by decide +kernel
theorem dX7_nodeAt_66 : decode cX7_nodeAt 66 = .ok (.ifCond .eq 28, 3) := by decide +kernel
theorem dX7_nodeAt_69 : decode cX7_nodeAt 69 = .ok (.aload_n 0, 1) := by decide +kernel
theorem dX7_nodeAt_70 : decode cX7_nodeAt 70 = .ok (.getfield 19, 3) := by decide +kernel
theorem dX7_nodeAt_73 : decode cX7_nodeAt 73 = .ok (.getfield 104, 3) := by decide +kernel
theorem dX7_nodeAt_76 : decode cX7_nodeAt 76 = .ok (.iload 4, 2) := by decide +kernel
theorem dX7_nodeAt_78 : decode cX7_nodeAt 78 = .ok (.iaload, 1) := by decide +kernel
theorem dX7_nodeAt_79 : decode cX7_nodeAt 79 = .ok (.aload_n 0, 1) := by decide +kernel
theorem dX7_nodeAt_80 : decode cX7_nodeAt 80 = .ok (.getfield 19, 3) := by decide +kernel
theorem dX7_nodeAt_83 : decode cX7_nodeAt 83 = .ok (.getfield 104, 3) := by decide +kernel
theorem dX7_nodeAt_86 : decode cX7_nodeAt 86 = .ok (.iload_n 3, 1) := by decide +kernel
theorem dX7_nodeAt_87 : decode cX7_nodeAt 87 = .ok (.iaload, 1) := by decide +kernel
theorem dX7_nodeAt_88 : decode cX7_nodeAt 88 = .ok (.if_icmp .le 6, 3) := by decide +kernel
theorem dX7_nodeAt_91 : decode cX7_nodeAt 91 = .ok (.iload 4, 2) := by decide +kernel
theorem dX7_nodeAt_93 : decode cX7_nodeAt 93 = .ok (.istore_n 3, 1) := by decide +kernel
theorem dX7_nodeAt_94 : decode cX7_nodeAt 94 = .ok (.iinc 4 1, 3) := by decide +kernel
theorem dX7_nodeAt_97 : decode cX7_nodeAt 97 = .ok (.goto (-57), 3) := by decide +kernel
theorem dX7_nodeAt_100 : decode cX7_nodeAt 100 = .ok (.iload_n 3, 1) := by decide +kernel
theorem dX7_nodeAt_101 : decode cX7_nodeAt 101 = .ok (.ireturn, 1) := by decide +kernel
set_option maxRecDepth 20000 in
theorem ggX7_leafPixels_X1_isLeaf : GoodIn wsX7_leafPixels wsX1_isLeaf := goodIn_r _ [9, 10, 33, 34, 35, 36, 37, 38, 39, 40] (by decide +kernel) (by decide +kernel)
set_option maxRecDepth 20000 in
theorem gX7_leafPixels_X1_isLeaf : GoodIn wsX7_leafPixels (wsV RX7 69 RX1 yX1_isLeaf wsX1_isLeaf) := goodIn_app (goodIn_of _ (by decide +kernel)) ggX7_leafPixels_X1_isLeaf
set_option maxRecDepth 20000 in
theorem ggX7_leafPixels_X3_area : GoodIn wsX7_leafPixels wsX3_area := goodIn_r _ [15, 16, 17, 41, 42, 43, 44] (by decide +kernel) (by decide +kernel)
set_option maxRecDepth 20000 in
theorem gX7_leafPixels_X3_area : GoodIn wsX7_leafPixels (wsV RX7 133 RX3 yX3_area wsX3_area) := goodIn_app (goodIn_of _ (by decide +kernel)) ggX7_leafPixels_X3_area
theorem dX7_leafPixels_0 : decode cX7_leafPixels 0 = .ok (.iconst 0, 1) := by decide +kernel
theorem dX7_leafPixels_1 : decode cX7_leafPixels 1 = .ok (.istore_n 1, 1) := by decide +kernel
theorem dX7_leafPixels_2 : decode cX7_leafPixels 2 = .ok (.iconst 0, 1) := by decide +kernel
theorem dX7_leafPixels_3 : decode cX7_leafPixels 3 = .ok (.istore_n 2, 1) := by decide +kernel
theorem dX7_leafPixels_4 : decode cX7_leafPixels 4 = .ok (.iload_n 2, 1) := by decide +kernel
theorem dX7_leafPixels_5 : decode cX7_leafPixels 5 = .ok (.aload_n 0, 1) := by decide +kernel
theorem dX7_leafPixels_6 : decode cX7_leafPixels 6 = .ok (.getfield 10, 3) := by decide +kernel
theorem dX7_leafPixels_9 : decode cX7_leafPixels 9 = .ok (.getfield 51, 3) := by decide +kernel
theorem dX7_leafPixels_12 : decode cX7_leafPixels 12 = .ok (.if_icmp .ge 34, 3) := by decide +kernel
theorem dX7_leafPixels_15 : decode cX7_leafPixels 15 = .ok (.aload_n 0, 1) := by decide +kernel
theorem dX7_leafPixels_16 : decode cX7_leafPixels 16 = .ok (.getfield 19, 3) := by decide +kernel
theorem dX7_leafPixels_19 : decode cX7_leafPixels 19 = .ok (.iload_n 2, 1) := by decide +kernel
theorem dX7_leafPixels_20 : decode cX7_leafPixels 20 = .ok (.invokevirtual 69, 3) := by decide +kernel
theorem dX7_leafPixels_23 : decode cX7_leafPixels 23 = .ok (.ifCond .eq 17, 3) := by decide +kernel
theorem dX7_leafPixels_26 : decode cX7_leafPixels 26 = .ok (.iload_n 1, 1) := by decide +kernel
theorem dX7_leafPixels_27 : decode cX7_leafPixels 27 = .ok (.aload_n 0, 1) := by decide +kernel
theorem dX7_leafPixels_28 : decode cX7_leafPixels 28 = .ok (.getfield 19, 3) := by decide +kernel
theorem dX7_leafPixels_31 : decode cX7_leafPixels 31 = .ok (.getfield 107, 3) := by decide +kernel
theorem dX7_leafPixels_34 : decode cX7_leafPixels 34 = .ok (.iload_n 2, 1) := by decide +kernel
theorem dX7_leafPixels_35 : decode cX7_leafPixels 35 = .ok (.invokevirtual 133, 3) := by decide +kernel
theorem dX7_leafPixels_38 : decode cX7_leafPixels 38 = .ok (.iadd, 1) := by decide +kernel
theorem dX7_leafPixels_39 : decode cX7_leafPixels 39 = .ok (.istore_n 1, 1) := by decide +kernel
theorem dX7_leafPixels_40 : decode cX7_leafPixels 40 = .ok (.iinc 2 1, 3) := by decide +kernel
theorem dX7_leafPixels_43 : decode cX7_leafPixels 43 = .ok (.goto (-39), 3) := by decide +kernel
theorem dX7_leafPixels_46 : decode cX7_leafPixels 46 = .ok (.iload_n 1, 1) := by decide +kernel
theorem dX7_leafPixels_47 : decode cX7_leafPixels 47 = .ok (.ireturn, 1) := by decide +kernel
set_option maxRecDepth 20000 in
theorem ggX7_worstAspect_X1_isLeafWithArea : GoodIn wsX7_worstAspect wsX1_isLeafWithArea := goodIn_r _ [9, 10, 11, 12, 13, 8, 14, 15, 16, 17, 18, 19, 20, 21, 22, 55, 56, 57, 58, 59, 60, 61, 62, 63, 64, 65, 66] (by decide +kernel) (by decide +kernel)
set_option maxRecDepth 20000 in
theorem gX7_worstAspect_X1_isLeafWithArea : GoodIn wsX7_worstAspect (wsV RX7 136 RX1 yX1_isLeafWithArea wsX1_isLeafWithArea) := goodIn_app (goodIn_of _ (by decide +kernel)) ggX7_worstAspect_X1_isLeafWithArea
set_option maxRecDepth 20000 in
theorem ggX7_worstAspect_X3_aspect : GoodIn wsX7_worstAspect wsX3_aspect := goodIn_r _ [26, 21, 22, 27, 28, 29, 30, 31, 32, 33, 63, 64, 65, 66] (by decide +kernel) (by decide +kernel)
set_option maxRecDepth 20000 in
theorem gX7_worstAspect_X3_aspect : GoodIn wsX7_worstAspect (wsV RX7 139 RX3 yX3_aspect wsX3_aspect) := goodIn_app (goodIn_of _ (by decide +kernel)) ggX7_worstAspect_X3_aspect
set_option maxRecDepth 20000 in
theorem ggX7_worstAspect_X7_floatBits : GoodIn wsX7_worstAspect wsX7_floatBits := goodIn_r _ [37, 38, 39] (by decide +kernel) (by decide +kernel)
set_option maxRecDepth 20000 in
theorem gX7_worstAspect_X7_floatBits : GoodIn wsX7_worstAspect (va_wsS RX7 143 yX7_floatBits wsX7_floatBits) := goodIn_app (goodIn_of _ (by decide +kernel)) ggX7_worstAspect_X7_floatBits
theorem dX7_worstAspect_0 : decode cX7_worstAspect 0 = .ok (.fconst 0, 1) := by decide +kernel
theorem dX7_worstAspect_1 : decode cX7_worstAspect 1 = .ok (.fstore_n 1, 1) := by decide +kernel
theorem dX7_worstAspect_2 : decode cX7_worstAspect 2 = .ok (.iconst 0, 1) := by decide +kernel
theorem dX7_worstAspect_3 : decode cX7_worstAspect 3 = .ok (.istore_n 2, 1) := by decide +kernel
theorem dX7_worstAspect_4 : decode cX7_worstAspect 4 = .ok (.iload_n 2, 1) := by decide +kernel
theorem dX7_worstAspect_5 : decode cX7_worstAspect 5 = .ok (.aload_n 0, 1) := by decide +kernel
theorem dX7_worstAspect_6 : decode cX7_worstAspect 6 = .ok (.getfield 10, 3) := by decide +kernel
theorem dX7_worstAspect_9 : decode cX7_worstAspect 9 = .ok (.getfield 51, 3) := by decide +kernel
theorem dX7_worstAspect_12 : decode cX7_worstAspect 12 = .ok (.if_icmp .ge 44, 3) := by decide +kernel
theorem dX7_worstAspect_15 : decode cX7_worstAspect 15 = .ok (.aload_n 0, 1) := by decide +kernel
theorem dX7_worstAspect_16 : decode cX7_worstAspect 16 = .ok (.getfield 19, 3) := by decide +kernel
theorem dX7_worstAspect_19 : decode cX7_worstAspect 19 = .ok (.iload_n 2, 1) := by decide +kernel
theorem dX7_worstAspect_20 : decode cX7_worstAspect 20 = .ok (.invokevirtual 136, 3) := by decide +kernel
theorem dX7_worstAspect_23 : decode cX7_worstAspect 23 = .ok (.ifCond .eq 27, 3) := by decide +kernel
theorem dX7_worstAspect_26 : decode cX7_worstAspect 26 = .ok (.aload_n 0, 1) := by decide +kernel
theorem dX7_worstAspect_27 : decode cX7_worstAspect 27 = .ok (.getfield 19, 3) := by decide +kernel
theorem dX7_worstAspect_30 : decode cX7_worstAspect 30 = .ok (.getfield 107, 3) := by decide +kernel
theorem dX7_worstAspect_33 : decode cX7_worstAspect 33 = .ok (.iload_n 2, 1) := by decide +kernel
theorem dX7_worstAspect_34 : decode cX7_worstAspect 34 = .ok (.invokevirtual 139, 3) := by decide +kernel
theorem dX7_worstAspect_37 : decode cX7_worstAspect 37 = .ok (.fstore_n 3, 1) := by decide +kernel
theorem dX7_worstAspect_38 : decode cX7_worstAspect 38 = .ok (.fload_n 3, 1) := by decide +kernel
theorem dX7_worstAspect_39 : decode cX7_worstAspect 39 = .ok (.fload_n 1, 1) := by decide +kernel
theorem dX7_worstAspect_40 : decode cX7_worstAspect 40 = .ok (.fcmp .l, 1) := by decide +kernel
theorem dX7_worstAspect_41 : decode cX7_worstAspect 41 = .ok (.ifCond .lt 7, 3) := by decide +kernel
theorem dX7_worstAspect_44 : decode cX7_worstAspect 44 = .ok (.fload_n 3, 1) := by decide +kernel
theorem dX7_worstAspect_45 : decode cX7_worstAspect 45 = .ok (.goto 4, 3) := by decide +kernel
theorem dX7_worstAspect_48 : decode cX7_worstAspect 48 = .ok (.fload_n 1, 1) := by decide +kernel
theorem dX7_worstAspect_49 : decode cX7_worstAspect 49 = .ok (.fstore_n 1, 1) := by decide +kernel
theorem dX7_worstAspect_50 : decode cX7_worstAspect 50 = .ok (.iinc 2 1, 3) := by decide +kernel
theorem dX7_worstAspect_53 : decode cX7_worstAspect 53 = .ok (.goto (-49), 3) := by decide +kernel
theorem dX7_worstAspect_56 : decode cX7_worstAspect 56 = .ok (.fload_n 1, 1) := by decide +kernel
theorem dX7_worstAspect_57 : decode cX7_worstAspect 57 = .ok (.fconst 0, 1) := by decide +kernel
theorem dX7_worstAspect_58 : decode cX7_worstAspect 58 = .ok (.fcmp .l, 1) := by decide +kernel
theorem dX7_worstAspect_59 : decode cX7_worstAspect 59 = .ok (.ifCond .le 10, 3) := by decide +kernel
theorem dX7_worstAspect_62 : decode cX7_worstAspect 62 = .ok (.fload_n 1, 1) := by decide +kernel
theorem dX7_worstAspect_63 : decode cX7_worstAspect 63 = .ok (.invokestatic 143, 3) := by decide +kernel
theorem dX7_worstAspect_66 : decode cX7_worstAspect 66 = .ok (.goto 4, 3) := by decide +kernel
theorem dX7_worstAspect_69 : decode cX7_worstAspect 69 = .ok (.iconst (-1), 1) := by decide +kernel
theorem dX7_worstAspect_70 : decode cX7_worstAspect 70 = .ok (.ireturn, 1) := by decide +kernel
set_option maxRecDepth 20000 in
theorem ggX7_averageAspect_X1_isLeafWithArea : GoodIn wsX7_averageAspect wsX1_isLeafWithArea := goodIn_r _ [9, 10, 11, 12, 13, 8, 14, 15, 16, 17, 18, 19, 20, 21, 22, 55, 56, 57, 58, 59, 60, 61, 62, 63, 64, 65, 66] (by decide +kernel) (by decide +kernel)
set_option maxRecDepth 20000 in
theorem gX7_averageAspect_X1_isLeafWithArea : GoodIn wsX7_averageAspect (wsV RX7 136 RX1 yX1_isLeafWithArea wsX1_isLeafWithArea) := goodIn_app (goodIn_of _ (by decide +kernel)) ggX7_averageAspect_X1_isLeafWithArea
set_option maxRecDepth 20000 in
theorem ggX7_averageAspect_X3_aspect : GoodIn wsX7_averageAspect wsX3_aspect := goodIn_r _ [26, 21, 22, 27, 28, 29, 30, 31, 32, 33, 63, 64, 65, 66] (by decide +kernel) (by decide +kernel)
set_option maxRecDepth 20000 in
theorem gX7_averageAspect_X3_aspect : GoodIn wsX7_averageAspect (wsV RX7 139 RX3 yX3_aspect wsX3_aspect) := goodIn_app (goodIn_of _ (by decide +kernel)) ggX7_averageAspect_X3_aspect
set_option maxRecDepth 20000 in
theorem ggX7_averageAspect_X7_floatBits : GoodIn wsX7_averageAspect wsX7_floatBits := goodIn_r _ [37, 38, 39] (by decide +kernel) (by decide +kernel)
set_option maxRecDepth 20000 in
theorem gX7_averageAspect_X7_floatBits : GoodIn wsX7_averageAspect (va_wsS RX7 143 yX7_floatBits wsX7_floatBits) := goodIn_app (goodIn_of _ (by decide +kernel)) ggX7_averageAspect_X7_floatBits
theorem dX7_averageAspect_0 : decode cX7_averageAspect 0 = .ok (.fconst 0, 1) := by decide +kernel
theorem dX7_averageAspect_1 : decode cX7_averageAspect 1 = .ok (.fstore_n 1, 1) := by decide +kernel
theorem dX7_averageAspect_2 : decode cX7_averageAspect 2 = .ok (.iconst 0, 1) := by decide +kernel
theorem dX7_averageAspect_3 : decode cX7_averageAspect 3 = .ok (.istore_n 2, 1) := by decide +kernel
theorem dX7_averageAspect_4 : decode cX7_averageAspect 4 = .ok (.iconst 0, 1) := by decide +kernel
theorem dX7_averageAspect_5 : decode cX7_averageAspect 5 = .ok (.istore_n 3, 1) := by decide +kernel
theorem dX7_averageAspect_6 : decode cX7_averageAspect 6 = .ok (.iload_n 3, 1) := by decide +kernel
theorem dX7_averageAspect_7 : decode cX7_averageAspect 7 = .ok (.aload_n 0, 1) := by decide +kernel
theorem dX7_averageAspect_8 : decode cX7_averageAspect 8 = .ok (.getfield 10, 3) := by decide +kernel
theorem dX7_averageAspect_11 : decode cX7_averageAspect 11 = .ok (.getfield 51, 3) := by decide +kernel
theorem dX7_averageAspect_14 : decode cX7_averageAspect 14 = .ok (.if_icmp .ge 37, 3) := by decide +kernel
theorem dX7_averageAspect_17 : decode cX7_averageAspect 17 = .ok (.aload_n 0, 1) := by decide +kernel
theorem dX7_averageAspect_18 : decode cX7_averageAspect 18 = .ok (.getfield 19, 3) := by decide +kernel
theorem dX7_averageAspect_21 : decode cX7_averageAspect 21 = .ok (.iload_n 3, 1) := by decide +kernel
theorem dX7_averageAspect_22 : decode cX7_averageAspect 22 = .ok (.invokevirtual 136, 3) := by decide +kernel
theorem dX7_averageAspect_25 : decode cX7_averageAspect 25 = .ok (.ifCond .eq 20, 3) := by decide +kernel
theorem dX7_averageAspect_28 : decode cX7_averageAspect 28 = .ok (.fload_n 1, 1) := by decide +kernel
theorem dX7_averageAspect_29 : decode cX7_averageAspect 29 = .ok (.aload_n 0, 1) := by decide +kernel
theorem dX7_averageAspect_30 : decode cX7_averageAspect 30 = .ok (.getfield 19, 3) := by decide +kernel
theorem dX7_averageAspect_33 : decode cX7_averageAspect 33 = .ok (.getfield 107, 3) := by decide +kernel
theorem dX7_averageAspect_36 : decode cX7_averageAspect 36 = .ok (.iload_n 3, 1) := by decide +kernel
theorem dX7_averageAspect_37 : decode cX7_averageAspect 37 = .ok (.invokevirtual 139, 3) := by decide +kernel
theorem dX7_averageAspect_40 : decode cX7_averageAspect 40 = .ok (.fadd, 1) := by decide +kernel
theorem dX7_averageAspect_41 : decode cX7_averageAspect 41 = .ok (.fstore_n 1, 1) := by decide +kernel
theorem dX7_averageAspect_42 : decode cX7_averageAspect 42 = .ok (.iinc 2 1, 3) := by decide +kernel
theorem dX7_averageAspect_45 : decode cX7_averageAspect 45 = .ok (.iinc 3 1, 3) := by decide +kernel
theorem dX7_averageAspect_48 : decode cX7_averageAspect 48 = .ok (.goto (-42), 3) := by decide +kernel
theorem dX7_averageAspect_51 : decode cX7_averageAspect 51 = .ok (.iload_n 2, 1) := by decide +kernel
theorem dX7_averageAspect_52 : decode cX7_averageAspect 52 = .ok (.ifCond .le 13, 3) := by decide +kernel
theorem dX7_averageAspect_55 : decode cX7_averageAspect 55 = .ok (.fload_n 1, 1) := by decide +kernel
theorem dX7_averageAspect_56 : decode cX7_averageAspect 56 = .ok (.iload_n 2, 1) := by decide +kernel
theorem dX7_averageAspect_57 : decode cX7_averageAspect 57 = .ok (.i2f, 1) := by decide +kernel
theorem dX7_averageAspect_58 : decode cX7_averageAspect 58 = .ok (.fdiv, 1) := by decide +kernel
theorem dX7_averageAspect_59 : decode cX7_averageAspect 59 = .ok (.invokestatic 143, 3) := by decide +kernel
theorem dX7_averageAspect_62 : decode cX7_averageAspect 62 = .ok (.goto 4, 3) := by decide +kernel
theorem dX7_averageAspect_65 : decode cX7_averageAspect 65 = .ok (.iconst (-1), 1) := by decide +kernel
theorem dX7_averageAspect_66 : decode cX7_averageAspect 66 = .ok (.ireturn, 1) := by decide +kernel
set_option maxRecDepth 20000 in
theorem ggX7_changeBy_X5_has : GoodIn wsX7_changeBy wsX5_has := goodIn_r _ [12, 13, 229, 230, 231, 232, 233, 234, 235] (by decide +kernel) (by decide +kernel)
set_option maxRecDepth 20000 in
theorem gX7_changeBy_X5_has : GoodIn wsX7_changeBy (wsV RX7 40 RX5 yX5_has wsX5_has) := goodIn_app (goodIn_of _ (by decide +kernel)) ggX7_changeBy_X5_has
set_option maxRecDepth 20000 in
theorem ggX7_changeBy_X7_isSize : GoodIn wsX7_changeBy wsX7_isSize := goodIn_r _ [17] (by decide +kernel) (by decide +kernel)
set_option maxRecDepth 20000 in
theorem gX7_changeBy_X7_isSize : GoodIn wsX7_changeBy (va_wsS RX7 44 yX7_isSize wsX7_isSize) := goodIn_app (goodIn_of _ (by decide +kernel)) ggX7_changeBy_X7_isSize
set_option maxRecDepth 20000 in
theorem ggX7_changeBy_X7_failInvalid : GoodIn wsX7_changeBy wsX7_failInvalid := goodIn_r _ [21, 22, 221, 222, 223, 224, 225, 226, 227, 228] (by decide +kernel) (by decide +kernel)
set_option maxRecDepth 20000 in
theorem gX7_changeBy_X7_failInvalid : GoodIn wsX7_changeBy (wsV RX7 47 RX7 yX7_failInvalid wsX7_failInvalid) := goodIn_app (goodIn_of _ (by decide +kernel)) ggX7_changeBy_X7_failInvalid
set_option maxRecDepth 20000 in
theorem ggX7_changeBy_X5_copyFrom : GoodIn wsX7_changeBy wsX5_copyFrom := goodIn_r _ [26, 27, 28, 29, 30, 31, 32, 13, 33, 34, 35, 36, 229, 230, 231, 232, 233, 234, 235] (by decide +kernel) (by decide +kernel)
set_option maxRecDepth 20000 in
theorem gX7_changeBy_X5_copyFrom : GoodIn wsX7_changeBy (wsV RX7 147 RX5 yX5_copyFrom wsX5_copyFrom) := goodIn_app (goodIn_of _ (by decide +kernel)) ggX7_changeBy_X5_copyFrom
set_option maxRecDepth 20000 in
theorem ggX7_changeBy_X1_arrange : GoodIn wsX7_changeBy wsX1_arrange := goodIn_r _ [41, 42, 43, 44, 45, 46, 47, 48, 49, 50, 40, 51, 52, 53, 54, 55, 56, 57, 58, 59, 60, 61, 62, 63, 64, 65, 66, 67, 68, 69, 70, 71, 72, 73, 74, 75, 76, 77, 78, 79, 80, 81, 82, 83, 84, 85, 86, 87, 88, 89, 90, 91, 92, 93, 94, 95, 96, 97, 98, 99, 100, 101, 102, 103, 104, 105, 106, 107, 108, 109, 110, 111, 112, 113, 114, 115, 116, 117, 118, 119, 120, 121, 122, 123, 124, 125, 126, 127, 128, 129, 130, 131, 132, 133, 134, 135, 136, 137, 138, 139, 140, 141, 142, 143, 144, 145, 146, 147, 148, 149, 150, 151, 152, 153, 154, 155, 156, 157, 158, 159, 160, 161, 162, 163, 164, 165, 166, 167, 168, 169, 170, 171, 172, 173, 174, 175, 176, 177, 178, 179, 180, 181, 182, 183, 184, 185, 186, 187, 188, 189, 190, 191, 192, 193, 194, 195, 196, 197, 198, 199, 200, 201, 202, 203, 204, 205, 206, 207, 208, 209, 210, 211, 212, 213, 236, 237, 238, 239, 240, 241, 242, 243, 229, 230, 231, 232, 233, 234, 235, 244, 245, 246, 247, 248, 249, 250, 251, 252, 253, 254, 255, 256, 257, 258, 259, 260, 261, 262, 263] (by decide +kernel) (by decide +kernel)
set_option maxRecDepth 20000 in
theorem gX7_changeBy_X1_arrange : GoodIn wsX7_changeBy (wsV RX7 36 RX1 yX1_arrange wsX1_arrange) := goodIn_app (goodIn_of _ (by decide +kernel)) ggX7_changeBy_X1_arrange
set_option maxRecDepth 20000 in
theorem ggX7_changeBy_X3_difference : GoodIn wsX7_changeBy wsX3_difference := goodIn_r _ [217, 71, 218, 219, 200, 220, 72, 73, 74, 244, 245, 246, 247] (by decide +kernel) (by decide +kernel)
set_option maxRecDepth 20000 in
theorem gX7_changeBy_X3_difference : GoodIn wsX7_changeBy (wsV RX7 150 RX3 yX3_difference wsX3_difference) := goodIn_app (goodIn_of _ (by decide +kernel)) ggX7_changeBy_X3_difference
theorem dX7_changeBy_0 : decode cX7_changeBy 0 = .ok (.aload_n 0, 1) := by decide +kernel
theorem dX7_changeBy_1 : decode cX7_changeBy 1 = .ok (.getfield 10, 3) := by decide +kernel
theorem dX7_changeBy_4 : decode cX7_changeBy 4 = .ok (.iload_n 1, 1) := by decide +kernel
theorem dX7_changeBy_5 : decode cX7_changeBy 5 = .ok (.invokevirtual 40, 3) := by decide +kernel
theorem dX7_changeBy_8 : decode cX7_changeBy 8 = .ok (.ifCond .eq 10, 3) := by decide +kernel
theorem dX7_changeBy_11 : decode cX7_changeBy 11 = .ok (.iload_n 2, 1) := by decide +kernel
theorem dX7_changeBy_12 : decode cX7_changeBy 12 = .ok (.invokestatic 44, 3) := by decide +kernel
theorem dX7_changeBy_15 : decode cX7_changeBy 15 = .ok (.ifCond .ne 8, 3) := by decide +kernel
theorem dX7_changeBy_18 : decode cX7_changeBy 18 = .ok (.aload_n 0, 1) := by decide +kernel
theorem dX7_changeBy_19 : decode cX7_changeBy 19 = .ok (.invokevirtual 47, 3) := by decide +kernel
theorem dX7_changeBy_22 : decode cX7_changeBy 22 = .ok (.ireturn, 1) := by decide +kernel
theorem dX7_changeBy_23 : decode cX7_changeBy 23 = .ok (.aload_n 0, 1) := by decide +kernel
theorem dX7_changeBy_24 : decode cX7_changeBy 24 = .ok (.getfield 30, 3) := by decide +kernel
theorem dX7_changeBy_27 : decode cX7_changeBy 27 = .ok (.aload_n 0, 1) := by decide +kernel
theorem dX7_changeBy_28 : decode cX7_changeBy 28 = .ok (.getfield 10, 3) := by decide +kernel
theorem dX7_changeBy_31 : decode cX7_changeBy 31 = .ok (.invokevirtual 147, 3) := by decide +kernel
theorem dX7_changeBy_34 : decode cX7_changeBy 34 = .ok (.aload_n 0, 1) := by decide +kernel
theorem dX7_changeBy_35 : decode cX7_changeBy 35 = .ok (.getfield 30, 3) := by decide +kernel
theorem dX7_changeBy_38 : decode cX7_changeBy 38 = .ok (.getfield 65, 3) := by decide +kernel
theorem dX7_changeBy_41 : decode cX7_changeBy 41 = .ok (.iload_n 1, 1) := by decide +kernel
theorem dX7_changeBy_42 : decode cX7_changeBy 42 = .ok (.iload_n 2, 1) := by decide +kernel
theorem dX7_changeBy_43 : decode cX7_changeBy 43 = .ok (.iastore, 1) := by decide +kernel
theorem dX7_changeBy_44 : decode cX7_changeBy 44 = .ok (.aload_n 0, 1) := by decide +kernel
theorem dX7_changeBy_45 : decode cX7_changeBy 45 = .ok (.getfield 33, 3) := by decide +kernel
theorem dX7_changeBy_48 : decode cX7_changeBy 48 = .ok (.aload_n 0, 1) := by decide +kernel
theorem dX7_changeBy_49 : decode cX7_changeBy 49 = .ok (.getfield 30, 3) := by decide +kernel
theorem dX7_changeBy_52 : decode cX7_changeBy 52 = .ok (.invokevirtual 36, 3) := by decide +kernel
theorem dX7_changeBy_55 : decode cX7_changeBy 55 = .ok (.iconst 0, 1) := by decide +kernel
theorem dX7_changeBy_56 : decode cX7_changeBy 56 = .ok (.istore_n 3, 1) := by decide +kernel
theorem dX7_changeBy_57 : decode cX7_changeBy 57 = .ok (.iconst 0, 1) := by decide +kernel
theorem dX7_changeBy_58 : decode cX7_changeBy 58 = .ok (.istore 4, 2) := by decide +kernel
theorem dX7_changeBy_60 : decode cX7_changeBy 60 = .ok (.iload 4, 2) := by decide +kernel
theorem dX7_changeBy_62 : decode cX7_changeBy 62 = .ok (.aload_n 0, 1) := by decide +kernel
theorem dX7_changeBy_63 : decode cX7_changeBy 63 = .ok (.getfield 10, 3) := by decide +kernel
theorem dX7_changeBy_66 : decode cX7_changeBy 66 = .ok (.getfield 51, 3) := by decide +kernel
theorem dX7_changeBy_69 : decode cX7_changeBy 69 = .ok (.if_icmp .ge 31, 3) := by decide +kernel
theorem dX7_changeBy_72 : decode cX7_changeBy 72 = .ok (.iload_n 3, 1) := by decide +kernel
theorem dX7_changeBy_73 : decode cX7_changeBy 73 = .ok (.aload_n 0, 1) := by decide +kernel
theorem dX7_changeBy_74 : decode cX7_changeBy 74 = .ok (.getfield 19, 3) := by decide +kernel
theorem dX7_changeBy_77 : decode cX7_changeBy 77 = .ok (.getfield 107, 3) := by decide +kernel
theorem dX7_changeBy_80 : decode cX7_changeBy 80 = .ok (.iload 4, 2) := by decide +kernel
theorem dX7_changeBy_82 : decode cX7_changeBy 82 = .ok (.aload_n 0, 1) := by decide +kernel
theorem dX7_changeBy_83 : decode cX7_changeBy 83 = .ok (.getfield 33, 3) := by decide +kernel
theorem dX7_changeBy_86 : decode cX7_changeBy 86 = .ok (.getfield 107, 3) := by decide +kernel
theorem dX7_changeBy_89 : decode cX7_changeBy 89 = .ok (.invokevirtual 150, 3) := by decide +kernel
theorem dX7_changeBy_92 : decode cX7_changeBy 92 = .ok (.iadd, 1) := by decide +kernel
theorem dX7_changeBy_93 : decode cX7_changeBy 93 = .ok (.istore_n 3, 1) := by decide +kernel
theorem dX7_changeBy_94 : decode cX7_changeBy 94 = .ok (.iinc 4 1, 3) := by decide +kernel
theorem dX7_changeBy_97 : decode cX7_changeBy 97 = .ok (.goto (-37), 3) := by decide +kernel
theorem dX7_changeBy_100 : decode cX7_changeBy 100 = .ok (.iload_n 3, 1) := by decide +kernel
theorem dX7_changeBy_101 : decode cX7_changeBy 101 = .ok (.ireturn, 1) := by decide +kernel
set_option maxRecDepth 20000 in
theorem ggX7_undo_X7_failRejected : GoodIn wsX7_undo wsX7_failRejected := goodIn_r _ [9, 10, 212, 213, 214, 215, 216, 217, 218, 219] (by decide +kernel) (by decide +kernel)
set_option maxRecDepth 20000 in
theorem gX7_undo_X7_failRejected : GoodIn wsX7_undo (wsV RX7 72 RX7 yX7_failRejected wsX7_failRejected) := goodIn_app (goodIn_of _ (by decide +kernel)) ggX7_undo_X7_failRejected
set_option maxRecDepth 20000 in
theorem ggX7_undo_X6_popInto : GoodIn wsX7_undo wsX6_popInto := goodIn_r _ [15, 16, 17, 18, 19, 20, 21, 22, 23, 24, 25, 26, 27, 28, 29, 30, 31, 32, 33, 34, 220, 221, 222, 223, 224, 225, 226, 227, 228, 229] (by decide +kernel) (by decide +kernel)
set_option maxRecDepth 20000 in
theorem gX7_undo_X6_popInto : GoodIn wsX7_undo (wsV RX7 155 RX6 yX6_popInto wsX6_popInto) := goodIn_app (goodIn_of _ (by decide +kernel)) ggX7_undo_X6_popInto
set_option maxRecDepth 20000 in
theorem ggX7_undo_X1_arrange : GoodIn wsX7_undo wsX1_arrange := goodIn_r _ [39, 40, 41, 42, 43, 44, 45, 46, 47, 48, 38, 49, 50, 51, 52, 53, 54, 55, 56, 57, 58, 59, 60, 61, 62, 63, 64, 65, 66, 67, 68, 69, 70, 71, 72, 73, 74, 75, 76, 77, 78, 79, 80, 81, 82, 83, 84, 85, 86, 87, 88, 89, 90, 91, 92, 93, 94, 95, 96, 97, 98, 99, 100, 101, 102, 103, 104, 105, 106, 107, 108, 109, 110, 111, 112, 113, 114, 115, 116, 117, 118, 119, 120, 121, 122, 123, 124, 125, 126, 127, 128, 129, 130, 131, 132, 133, 134, 135, 136, 137, 138, 139, 140, 141, 142, 143, 144, 145, 146, 147, 148, 149, 150, 151, 152, 153, 154, 155, 156, 157, 158, 159, 160, 161, 162, 163, 164, 165, 166, 167, 168, 169, 170, 171, 172, 173, 174, 175, 176, 177, 178, 179, 180, 181, 182, 183, 184, 185, 186, 187, 188, 189, 190, 191, 192, 193, 194, 195, 196, 197, 198, 199, 200, 201, 202, 203, 204, 205, 206, 207, 208, 209, 210, 211, 230, 231, 232, 233, 234, 235, 236, 237, 223, 224, 225, 226, 227, 228, 229, 238, 239, 240, 241, 242, 243, 244, 245, 246, 247, 248, 249, 250, 251, 252, 253, 254, 255, 256, 257] (by decide +kernel) (by decide +kernel)
set_option maxRecDepth 20000 in
theorem gX7_undo_X1_arrange : GoodIn wsX7_undo (wsV RX7 36 RX1 yX1_arrange wsX1_arrange) := goodIn_app (goodIn_of _ (by decide +kernel)) ggX7_undo_X1_arrange
theorem dX7_undo_0 : decode cX7_undo 0 = .ok (.aload_n 0, 1) := by decide +kernel
theorem dX7_undo_1 : decode cX7_undo 1 = .ok (.getfield 26, 3) := by decide +kernel
theorem dX7_undo_4 : decode cX7_undo 4 = .ok (.getfield 154, 3) := by decide +kernel
theorem dX7_undo_7 : decode cX7_undo 7 = .ok (.ifCond .gt 8, 3) := by decide +kernel
theorem dX7_undo_10 : decode cX7_undo 10 = .ok (.aload_n 0, 1) := by decide +kernel
theorem dX7_undo_11 : decode cX7_undo 11 = .ok (.invokevirtual 72, 3) := by decide +kernel
theorem dX7_undo_14 : decode cX7_undo 14 = .ok (.ireturn, 1) := by decide +kernel
theorem dX7_undo_15 : decode cX7_undo 15 = .ok (.aload_n 0, 1) := by decide +kernel
theorem dX7_undo_16 : decode cX7_undo 16 = .ok (.getfield 26, 3) := by decide +kernel
theorem dX7_undo_19 : decode cX7_undo 19 = .ok (.aload_n 0, 1) := by decide +kernel
theorem dX7_undo_20 : decode cX7_undo 20 = .ok (.getfield 10, 3) := by decide +kernel
theorem dX7_undo_23 : decode cX7_undo 23 = .ok (.invokevirtual 155, 3) := by decide +kernel
theorem dX7_undo_26 : decode cX7_undo 26 = .ok (.aload_n 0, 1) := by decide +kernel
theorem dX7_undo_27 : decode cX7_undo 27 = .ok (.getfield 19, 3) := by decide +kernel
theorem dX7_undo_30 : decode cX7_undo 30 = .ok (.aload_n 0, 1) := by decide +kernel
theorem dX7_undo_31 : decode cX7_undo 31 = .ok (.getfield 10, 3) := by decide +kernel
theorem dX7_undo_34 : decode cX7_undo 34 = .ok (.invokevirtual 36, 3) := by decide +kernel
theorem dX7_undo_37 : decode cX7_undo 37 = .ok (.aload_n 0, 1) := by decide +kernel
theorem dX7_undo_38 : decode cX7_undo 38 = .ok (.getfield 26, 3) := by decide +kernel
theorem dX7_undo_41 : decode cX7_undo 41 = .ok (.getfield 154, 3) := by decide +kernel
theorem dX7_undo_44 : decode cX7_undo 44 = .ok (.ireturn, 1) := by decide +kernel
set_option maxRecDepth 20000 in
theorem ggX7_errorCount_X7_failInvalid : GoodIn wsX7_errorCount wsX7_failInvalid := goodIn_r _ [8, 1, 9, 10, 11, 12, 13, 14, 15, 16] (by decide +kernel) (by decide +kernel)
set_option maxRecDepth 20000 in
theorem gX7_errorCount_X7_failInvalid : GoodIn wsX7_errorCount (wsV RX7 47 RX7 yX7_failInvalid wsX7_failInvalid) := goodIn_app (goodIn_of _ (by decide +kernel)) ggX7_errorCount_X7_failInvalid
theorem dX7_errorCount_0 : decode cX7_errorCount 0 = .ok (.iload_n 1, 1) := by decide +kernel
theorem dX7_errorCount_1 : decode cX7_errorCount 1 = .ok (.tableswitch 42 0 2 #[27, 32, 37], 27) := by decide +kernel
theorem dX7_errorCount_28 : decode cX7_errorCount 28 = .ok (.aload_n 0, 1) := by decide +kernel
theorem dX7_errorCount_29 : decode cX7_errorCount 29 = .ok (.getfield 158, 3) := by decide +kernel
theorem dX7_errorCount_32 : decode cX7_errorCount 32 = .ok (.ireturn, 1) := by decide +kernel
theorem dX7_errorCount_33 : decode cX7_errorCount 33 = .ok (.aload_n 0, 1) := by decide +kernel
theorem dX7_errorCount_34 : decode cX7_errorCount 34 = .ok (.getfield 161, 3) := by decide +kernel
theorem dX7_errorCount_37 : decode cX7_errorCount 37 = .ok (.ireturn, 1) := by decide +kernel
theorem dX7_errorCount_38 : decode cX7_errorCount 38 = .ok (.aload_n 0, 1) := by decide +kernel
theorem dX7_errorCount_39 : decode cX7_errorCount 39 = .ok (.getfield 164, 3) := by decide +kernel
theorem dX7_errorCount_42 : decode cX7_errorCount 42 = .ok (.ireturn, 1) := by decide +kernel
theorem dX7_errorCount_43 : decode cX7_errorCount 43 = .ok (.aload_n 0, 1) := by decide +kernel
theorem dX7_errorCount_44 : decode cX7_errorCount 44 = .ok (.invokevirtual 47, 3) := by decide +kernel
theorem dX7_errorCount_47 : decode cX7_errorCount 47 = .ok (.ireturn, 1) := by decide +kernel
set_option maxRecDepth 20000 in
theorem ggX7_digest_X7_mix : GoodIn wsX7_digest wsX7_mix := goodIn_r _ [16, 17] (by decide +kernel) (by decide +kernel)
set_option maxRecDepth 20000 in
theorem gX7_digest_X7_mix : GoodIn wsX7_digest (va_wsS RX7 169 yX7_mix wsX7_mix) := goodIn_app (goodIn_of _ (by decide +kernel)) ggX7_digest_X7_mix
set_option maxRecDepth 20000 in
theorem ggX7_digest_X7_mixNode : GoodIn wsX7_digest wsX7_mixNode := goodIn_r _ [21, 7, 22, 23, 24, 25, 26, 27, 28, 29, 30, 13, 14, 15, 16, 17, 31, 32, 33, 34, 35, 84, 85, 86, 87, 88, 89, 90, 91, 95, 96, 97, 98, 99, 100, 101, 102, 103, 104, 105, 106, 107, 108, 109, 110, 111, 112, 113] (by decide +kernel) (by decide +kernel)
set_option maxRecDepth 20000 in
theorem gX7_digest_X7_mixNode : GoodIn wsX7_digest (wsV RX7 173 RX7 yX7_mixNode wsX7_mixNode) := goodIn_app (goodIn_of _ (by decide +kernel)) ggX7_digest_X7_mixNode
set_option maxRecDepth 20000 in
theorem ggX7_digest_X7_leafPixels : GoodIn wsX7_digest wsX7_leafPixels := goodIn_r _ [39, 7, 12, 23, 26, 40, 41, 42, 43, 44, 45, 46, 47, 48, 49, 50, 51, 52, 84, 85, 86, 87, 88, 89, 90, 91, 95, 96, 97, 98, 99, 100, 101, 102, 103, 104, 105, 106, 107, 108, 109, 110, 111, 112, 113] (by decide +kernel) (by decide +kernel)
set_option maxRecDepth 20000 in
theorem gX7_digest_X7_leafPixels : GoodIn wsX7_digest (wsV RX7 176 RX7 yX7_leafPixels wsX7_leafPixels) := goodIn_app (goodIn_of _ (by decide +kernel)) ggX7_digest_X7_leafPixels
set_option maxRecDepth 20000 in
theorem ggX7_digest_X7_worstAspect : GoodIn wsX7_digest wsX7_worstAspect := goodIn_r _ [56, 7, 12, 23, 26, 57, 58, 59, 43, 60, 61, 62, 41, 42, 44, 45, 63, 47, 48, 49, 50, 51, 52, 64, 65, 66, 67, 68, 69, 70, 71, 72, 73, 74, 75, 76, 15, 77, 78, 79, 84, 85, 86, 87, 88, 89, 90, 91, 95, 96, 97, 98, 99, 100, 101, 102, 103, 104, 105, 106, 107, 108, 109, 110, 111, 112, 113] (by decide +kernel) (by decide +kernel)
end
section
set_option maxRecDepth 20000 in
theorem gX7_digest_X7_worstAspect : GoodIn wsX7_digest (wsV RX7 179 RX7 yX7_worstAspect wsX7_worstAspect) := goodIn_app (goodIn_of _ (by decide +kernel)) ggX7_digest_X7_worstAspect
set_option maxRecDepth 20000 in
theorem ggX7_digest_X7_averageAspect : GoodIn wsX7_digest wsX7_averageAspect := goodIn_r _ [83, 7, 12, 23, 26, 57, 58, 59, 43, 60, 61, 62, 41, 42, 44, 45, 63, 47, 48, 49, 50, 51, 52, 64, 65, 66, 67, 68, 69, 70, 71, 72, 73, 74, 75, 76, 15, 77, 78, 79, 84, 85, 86, 87, 88, 89, 90, 91, 95, 96, 97, 98, 99, 100, 101, 102, 103, 104, 105, 106, 107, 108, 109, 110, 111, 112, 113] (by decide +kernel) (by decide +kernel)
set_option maxRecDepth 20000 in
theorem gX7_digest_X7_averageAspect : GoodIn wsX7_digest (wsV RX7 182 RX7 yX7_averageAspect wsX7_averageAspect) := goodIn_app (goodIn_of _ (by decide +kernel)) ggX7_digest_X7_averageAspect
theorem dX7_digest_0 : decode cX7_digest 0 = .ok (.ldc2_w 167, 3) := by decide +kernel
theorem dX7_digest_3 : decode cX7_digest 3 = .ok (.lstore_n 1, 1) := by decide +kernel
theorem dX7_digest_4 : decode cX7_digest 4 = .ok (.lload_n 1, 1) := by decide +kernel
theorem dX7_digest_5 : decode cX7_digest 5 = .ok (.aload_n 0, 1) := by decide +kernel
theorem dX7_digest_6 : decode cX7_digest 6 = .ok (.getfield 158, 3) := by decide +kernel
theorem dX7_digest_9 : decode cX7_digest 9 = .ok (.invokestatic 169, 3) := by decide +kernel
theorem dX7_digest_12 : decode cX7_digest 12 = .ok (.lstore_n 1, 1) := by decide +kernel
theorem dX7_digest_13 : decode cX7_digest 13 = .ok (.lload_n 1, 1) := by decide +kernel
theorem dX7_digest_14 : decode cX7_digest 14 = .ok (.aload_n 0, 1) := by decide +kernel
theorem dX7_digest_15 : decode cX7_digest 15 = .ok (.getfield 161, 3) := by decide +kernel
theorem dX7_digest_18 : decode cX7_digest 18 = .ok (.invokestatic 169, 3) := by decide +kernel
theorem dX7_digest_21 : decode cX7_digest 21 = .ok (.lstore_n 1, 1) := by decide +kernel
theorem dX7_digest_22 : decode cX7_digest 22 = .ok (.lload_n 1, 1) := by decide +kernel
theorem dX7_digest_23 : decode cX7_digest 23 = .ok (.aload_n 0, 1) := by decide +kernel
theorem dX7_digest_24 : decode cX7_digest 24 = .ok (.getfield 164, 3) := by decide +kernel
theorem dX7_digest_27 : decode cX7_digest 27 = .ok (.invokestatic 169, 3) := by decide +kernel
theorem dX7_digest_30 : decode cX7_digest 30 = .ok (.lstore_n 1, 1) := by decide +kernel
theorem dX7_digest_31 : decode cX7_digest 31 = .ok (.lload_n 1, 1) := by decide +kernel
theorem dX7_digest_32 : decode cX7_digest 32 = .ok (.aload_n 0, 1) := by decide +kernel
theorem dX7_digest_33 : decode cX7_digest 33 = .ok (.getfield 26, 3) := by decide +kernel
theorem dX7_digest_36 : decode cX7_digest 36 = .ok (.getfield 154, 3) := by decide +kernel
theorem dX7_digest_39 : decode cX7_digest 39 = .ok (.invokestatic 169, 3) := by decide +kernel
theorem dX7_digest_42 : decode cX7_digest 42 = .ok (.lstore_n 1, 1) := by decide +kernel
theorem dX7_digest_43 : decode cX7_digest 43 = .ok (.lload_n 1, 1) := by decide +kernel
theorem dX7_digest_44 : decode cX7_digest 44 = .ok (.aload_n 0, 1) := by decide +kernel
theorem dX7_digest_45 : decode cX7_digest 45 = .ok (.getfield 10, 3) := by decide +kernel
theorem dX7_digest_48 : decode cX7_digest 48 = .ok (.getfield 89, 3) := by decide +kernel
theorem dX7_digest_51 : decode cX7_digest 51 = .ok (.invokestatic 169, 3) := by decide +kernel
theorem dX7_digest_54 : decode cX7_digest 54 = .ok (.lstore_n 1, 1) := by decide +kernel
theorem dX7_digest_55 : decode cX7_digest 55 = .ok (.lload_n 1, 1) := by decide +kernel
theorem dX7_digest_56 : decode cX7_digest 56 = .ok (.aload_n 0, 1) := by decide +kernel
theorem dX7_digest_57 : decode cX7_digest 57 = .ok (.getfield 10, 3) := by decide +kernel
theorem dX7_digest_60 : decode cX7_digest 60 = .ok (.getfield 92, 3) := by decide +kernel
theorem dX7_digest_63 : decode cX7_digest 63 = .ok (.invokestatic 169, 3) := by decide +kernel
theorem dX7_digest_66 : decode cX7_digest 66 = .ok (.lstore_n 1, 1) := by decide +kernel
theorem dX7_digest_67 : decode cX7_digest 67 = .ok (.lload_n 1, 1) := by decide +kernel
theorem dX7_digest_68 : decode cX7_digest 68 = .ok (.aload_n 0, 1) := by decide +kernel
theorem dX7_digest_69 : decode cX7_digest 69 = .ok (.getfield 10, 3) := by decide +kernel
theorem dX7_digest_72 : decode cX7_digest 72 = .ok (.getfield 95, 3) := by decide +kernel
theorem dX7_digest_75 : decode cX7_digest 75 = .ok (.invokestatic 169, 3) := by decide +kernel
theorem dX7_digest_78 : decode cX7_digest 78 = .ok (.lstore_n 1, 1) := by decide +kernel
theorem dX7_digest_79 : decode cX7_digest 79 = .ok (.lload_n 1, 1) := by decide +kernel
theorem dX7_digest_80 : decode cX7_digest 80 = .ok (.aload_n 0, 1) := by decide +kernel
theorem dX7_digest_81 : decode cX7_digest 81 = .ok (.getfield 10, 3) := by decide +kernel
theorem dX7_digest_84 : decode cX7_digest 84 = .ok (.getfield 98, 3) := by decide +kernel
theorem dX7_digest_87 : decode cX7_digest 87 = .ok (.invokestatic 169, 3) := by decide +kernel
theorem dX7_digest_90 : decode cX7_digest 90 = .ok (.lstore_n 1, 1) := by decide +kernel
theorem dX7_digest_91 : decode cX7_digest 91 = .ok (.lload_n 1, 1) := by decide +kernel
theorem dX7_digest_92 : decode cX7_digest 92 = .ok (.aload_n 0, 1) := by decide +kernel
theorem dX7_digest_93 : decode cX7_digest 93 = .ok (.getfield 10, 3) := by decide +kernel
theorem dX7_digest_96 : decode cX7_digest 96 = .ok (.getfield 51, 3) := by decide +kernel
theorem dX7_digest_99 : decode cX7_digest 99 = .ok (.invokestatic 169, 3) := by decide +kernel
theorem dX7_digest_102 : decode cX7_digest 102 = .ok (.lstore_n 1, 1) := by decide +kernel
theorem dX7_digest_103 : decode cX7_digest 103 = .ok (.iconst 0, 1) := by decide +kernel
theorem dX7_digest_104 : decode cX7_digest 104 = .ok (.istore_n 3, 1) := by decide +kernel
theorem dX7_digest_105 : decode cX7_digest 105 = .ok (.iload_n 3, 1) := by decide +kernel
theorem dX7_digest_106 : decode cX7_digest 106 = .ok (.aload_n 0, 1) := by decide +kernel
theorem dX7_digest_107 : decode cX7_digest 107 = .ok (.getfield 10, 3) := by decide +kernel
theorem dX7_digest_110 : decode cX7_digest 110 = .ok (.getfield 51, 3) := by decide +kernel
theorem dX7_digest_113 : decode cX7_digest 113 = .ok (.if_icmp .ge 16, 3) := by decide +kernel
theorem dX7_digest_116 : decode cX7_digest 116 = .ok (.aload_n 0, 1) := by decide +kernel
theorem dX7_digest_117 : decode cX7_digest 117 = .ok (.lload_n 1, 1) := by decide +kernel
theorem dX7_digest_118 : decode cX7_digest 118 = .ok (.iload_n 3, 1) := by decide +kernel
theorem dX7_digest_119 : decode cX7_digest 119 = .ok (.invokevirtual 173, 3) := by decide +kernel
theorem dX7_digest_122 : decode cX7_digest 122 = .ok (.lstore_n 1, 1) := by decide +kernel
theorem dX7_digest_123 : decode cX7_digest 123 = .ok (.iinc 3 1, 3) := by decide +kernel
theorem dX7_digest_126 : decode cX7_digest 126 = .ok (.goto (-21), 3) := by decide +kernel
theorem dX7_digest_129 : decode cX7_digest 129 = .ok (.lload_n 1, 1) := by decide +kernel
theorem dX7_digest_130 : decode cX7_digest 130 = .ok (.aload_n 0, 1) := by decide +kernel
theorem dX7_digest_131 : decode cX7_digest 131 = .ok (.invokevirtual 176, 3) := by decide +kernel
theorem dX7_digest_134 : decode cX7_digest 134 = .ok (.invokestatic 169, 3) := by decide +kernel
theorem dX7_digest_137 : decode cX7_digest 137 = .ok (.lstore_n 1, 1) := by decide +kernel
theorem dX7_digest_138 : decode cX7_digest 138 = .ok (.lload_n 1, 1) := by decide +kernel
theorem dX7_digest_139 : decode cX7_digest 139 = .ok (.aload_n 0, 1) := by decide +kernel
theorem dX7_digest_140 : decode cX7_digest 140 = .ok (.invokevirtual 179, 3) := by decide +kernel
theorem dX7_digest_143 : decode cX7_digest 143 = .ok (.invokestatic 169, 3) := by decide +kernel
theorem dX7_digest_146 : decode cX7_digest 146 = .ok (.lstore_n 1, 1) := by decide +kernel
theorem dX7_digest_147 : decode cX7_digest 147 = .ok (.lload_n 1, 1) := by decide +kernel
theorem dX7_digest_148 : decode cX7_digest 148 = .ok (.aload_n 0, 1) := by decide +kernel
theorem dX7_digest_149 : decode cX7_digest 149 = .ok (.invokevirtual 182, 3) := by decide +kernel
theorem dX7_digest_152 : decode cX7_digest 152 = .ok (.invokestatic 169, 3) := by decide +kernel
theorem dX7_digest_155 : decode cX7_digest 155 = .ok (.lreturn, 1) := by decide +kernel
set_option maxRecDepth 20000 in
theorem ggX7_mixNode_X7_mix : GoodIn wsX7_mixNode wsX7_mix := goodIn_r _ [14, 15] (by decide +kernel) (by decide +kernel)
set_option maxRecDepth 20000 in
theorem gX7_mixNode_X7_mix : GoodIn wsX7_mixNode (va_wsS RX7 169 yX7_mix wsX7_mix) := goodIn_app (goodIn_of _ (by decide +kernel)) ggX7_mixNode_X7_mix
set_option maxRecDepth 20000 in
theorem ggX7_mixNode_X7_hiddenFlag : GoodIn wsX7_mixNode wsX7_hiddenFlag := goodIn_r _ [19, 3, 20, 21, 22, 23, 24, 25, 26, 27, 28, 36, 37, 38, 39, 40, 41, 42, 43] (by decide +kernel) (by decide +kernel)
set_option maxRecDepth 20000 in
theorem gX7_mixNode_X7_hiddenFlag : GoodIn wsX7_mixNode (wsV RX7 125 RX7 yX7_hiddenFlag wsX7_hiddenFlag) := goodIn_app (goodIn_of _ (by decide +kernel)) ggX7_mixNode_X7_hiddenFlag
theorem dX7_mixNode_0 : decode cX7_mixNode 0 = .ok (.lload_n 1, 1) := by decide +kernel
theorem dX7_mixNode_1 : decode cX7_mixNode 1 = .ok (.aload_n 0, 1) := by decide +kernel
theorem dX7_mixNode_2 : decode cX7_mixNode 2 = .ok (.getfield 10, 3) := by decide +kernel
theorem dX7_mixNode_5 : decode cX7_mixNode 5 = .ok (.getfield 65, 3) := by decide +kernel
theorem dX7_mixNode_8 : decode cX7_mixNode 8 = .ok (.iload_n 3, 1) := by decide +kernel
theorem dX7_mixNode_9 : decode cX7_mixNode 9 = .ok (.iaload, 1) := by decide +kernel
theorem dX7_mixNode_10 : decode cX7_mixNode 10 = .ok (.invokestatic 169, 3) := by decide +kernel
theorem dX7_mixNode_13 : decode cX7_mixNode 13 = .ok (.lstore 4, 2) := by decide +kernel
theorem dX7_mixNode_15 : decode cX7_mixNode 15 = .ok (.lload 4, 2) := by decide +kernel
theorem dX7_mixNode_17 : decode cX7_mixNode 17 = .ok (.aload_n 0, 1) := by decide +kernel
theorem dX7_mixNode_18 : decode cX7_mixNode 18 = .ok (.getfield 19, 3) := by decide +kernel
theorem dX7_mixNode_21 : decode cX7_mixNode 21 = .ok (.getfield 101, 3) := by decide +kernel
theorem dX7_mixNode_24 : decode cX7_mixNode 24 = .ok (.iload_n 3, 1) := by decide +kernel
theorem dX7_mixNode_25 : decode cX7_mixNode 25 = .ok (.iaload, 1) := by decide +kernel
theorem dX7_mixNode_26 : decode cX7_mixNode 26 = .ok (.invokestatic 169, 3) := by decide +kernel
theorem dX7_mixNode_29 : decode cX7_mixNode 29 = .ok (.lstore 4, 2) := by decide +kernel
theorem dX7_mixNode_31 : decode cX7_mixNode 31 = .ok (.lload 4, 2) := by decide +kernel
theorem dX7_mixNode_33 : decode cX7_mixNode 33 = .ok (.aload_n 0, 1) := by decide +kernel
theorem dX7_mixNode_34 : decode cX7_mixNode 34 = .ok (.getfield 10, 3) := by decide +kernel
theorem dX7_mixNode_37 : decode cX7_mixNode 37 = .ok (.getfield 83, 3) := by decide +kernel
theorem dX7_mixNode_40 : decode cX7_mixNode 40 = .ok (.iload_n 3, 1) := by decide +kernel
theorem dX7_mixNode_41 : decode cX7_mixNode 41 = .ok (.iaload, 1) := by decide +kernel
theorem dX7_mixNode_42 : decode cX7_mixNode 42 = .ok (.invokestatic 169, 3) := by decide +kernel
theorem dX7_mixNode_45 : decode cX7_mixNode 45 = .ok (.lstore 4, 2) := by decide +kernel
theorem dX7_mixNode_47 : decode cX7_mixNode 47 = .ok (.lload 4, 2) := by decide +kernel
theorem dX7_mixNode_49 : decode cX7_mixNode 49 = .ok (.aload_n 0, 1) := by decide +kernel
theorem dX7_mixNode_50 : decode cX7_mixNode 50 = .ok (.getfield 19, 3) := by decide +kernel
theorem dX7_mixNode_53 : decode cX7_mixNode 53 = .ok (.getfield 107, 3) := by decide +kernel
theorem dX7_mixNode_56 : decode cX7_mixNode 56 = .ok (.getfield 111, 3) := by decide +kernel
theorem dX7_mixNode_59 : decode cX7_mixNode 59 = .ok (.iload_n 3, 1) := by decide +kernel
theorem dX7_mixNode_60 : decode cX7_mixNode 60 = .ok (.iaload, 1) := by decide +kernel
theorem dX7_mixNode_61 : decode cX7_mixNode 61 = .ok (.invokestatic 169, 3) := by decide +kernel
theorem dX7_mixNode_64 : decode cX7_mixNode 64 = .ok (.lstore 4, 2) := by decide +kernel
theorem dX7_mixNode_66 : decode cX7_mixNode 66 = .ok (.lload 4, 2) := by decide +kernel
theorem dX7_mixNode_68 : decode cX7_mixNode 68 = .ok (.aload_n 0, 1) := by decide +kernel
theorem dX7_mixNode_69 : decode cX7_mixNode 69 = .ok (.getfield 19, 3) := by decide +kernel
theorem dX7_mixNode_72 : decode cX7_mixNode 72 = .ok (.getfield 107, 3) := by decide +kernel
theorem dX7_mixNode_75 : decode cX7_mixNode 75 = .ok (.getfield 116, 3) := by decide +kernel
theorem dX7_mixNode_78 : decode cX7_mixNode 78 = .ok (.iload_n 3, 1) := by decide +kernel
theorem dX7_mixNode_79 : decode cX7_mixNode 79 = .ok (.iaload, 1) := by decide +kernel
theorem dX7_mixNode_80 : decode cX7_mixNode 80 = .ok (.invokestatic 169, 3) := by decide +kernel
theorem dX7_mixNode_83 : decode cX7_mixNode 83 = .ok (.lstore 4, 2) := by decide +kernel
theorem dX7_mixNode_85 : decode cX7_mixNode 85 = .ok (.lload 4, 2) := by decide +kernel
theorem dX7_mixNode_87 : decode cX7_mixNode 87 = .ok (.aload_n 0, 1) := by decide +kernel
theorem dX7_mixNode_88 : decode cX7_mixNode 88 = .ok (.getfield 19, 3) := by decide +kernel
theorem dX7_mixNode_91 : decode cX7_mixNode 91 = .ok (.getfield 107, 3) := by decide +kernel
theorem dX7_mixNode_94 : decode cX7_mixNode 94 = .ok (.getfield 119, 3) := by decide +kernel
theorem dX7_mixNode_97 : decode cX7_mixNode 97 = .ok (.iload_n 3, 1) := by decide +kernel
theorem dX7_mixNode_98 : decode cX7_mixNode 98 = .ok (.iaload, 1) := by decide +kernel
theorem dX7_mixNode_99 : decode cX7_mixNode 99 = .ok (.invokestatic 169, 3) := by decide +kernel
theorem dX7_mixNode_102 : decode cX7_mixNode 102 = .ok (.lstore 4, 2) := by decide +kernel
theorem dX7_mixNode_104 : decode cX7_mixNode 104 = .ok (.lload 4, 2) := by decide +kernel
theorem dX7_mixNode_106 : decode cX7_mixNode 106 = .ok (.aload_n 0, 1) := by decide +kernel
theorem dX7_mixNode_107 : decode cX7_mixNode 107 = .ok (.getfield 19, 3) := by decide +kernel
theorem dX7_mixNode_110 : decode cX7_mixNode 110 = .ok (.getfield 107, 3) := by decide +kernel
theorem dX7_mixNode_113 : decode cX7_mixNode 113 = .ok (.getfield 122, 3) := by decide +kernel
theorem dX7_mixNode_116 : decode cX7_mixNode 116 = .ok (.iload_n 3, 1) := by decide +kernel
theorem dX7_mixNode_117 : decode cX7_mixNode 117 = .ok (.iaload, 1) := by decide +kernel
theorem dX7_mixNode_118 : decode cX7_mixNode 118 = .ok (.invokestatic 169, 3) := by decide +kernel
theorem dX7_mixNode_121 : decode cX7_mixNode 121 = .ok (.lstore 4, 2) := by decide +kernel
theorem dX7_mixNode_123 : decode cX7_mixNode 123 = .ok (.lload 4, 2) := by decide +kernel
theorem dX7_mixNode_125 : decode cX7_mixNode 125 = .ok (.aload_n 0, 1) := by decide +kernel
theorem dX7_mixNode_126 : decode cX7_mixNode 126 = .ok (.iload_n 3, 1) := by decide +kernel
theorem dX7_mixNode_127 : decode cX7_mixNode 127 = .ok (.invokevirtual 125, 3) := by decide +kernel
theorem dX7_mixNode_130 : decode cX7_mixNode 130 = .ok (.invokestatic 169, 3) := by decide +kernel
theorem dX7_mixNode_133 : decode cX7_mixNode 133 = .ok (.lreturn, 1) := by decide +kernel
theorem dX7_mix_0 : decode cX7_mix 0 = .ok (.ldc2_w 185, 3) := by decide +kernel
theorem dX7_mix_3 : decode cX7_mix 3 = .ok (.lload_n 0, 1) := by decide +kernel
theorem dX7_mix_4 : decode cX7_mix 4 = .ok (.lmul, 1) := by decide +kernel
theorem dX7_mix_5 : decode cX7_mix 5 = .ok (.iload_n 2, 1) := by decide +kernel
theorem dX7_mix_6 : decode cX7_mix 6 = .ok (.i2l, 1) := by decide +kernel
theorem dX7_mix_7 : decode cX7_mix 7 = .ok (.ladd, 1) := by decide +kernel
theorem dX7_mix_8 : decode cX7_mix 8 = .ok (.lreturn, 1) := by decide +kernel
theorem dX7_hiddenFlag_0 : decode cX7_hiddenFlag 0 = .ok (.aload_n 0, 1) := by decide +kernel
theorem dX7_hiddenFlag_1 : decode cX7_hiddenFlag 1 = .ok (.getfield 19, 3) := by decide +kernel
theorem dX7_hiddenFlag_4 : decode cX7_hiddenFlag 4 = .ok (.getfield 187, 3) := by decide +kernel
theorem dX7_hiddenFlag_7 : decode cX7_hiddenFlag 7 = .ok (.iload_n 1, 1) := by decide +kernel
theorem dX7_hiddenFlag_8 : decode cX7_hiddenFlag 8 = .ok (.baload, 1) := by decide +kernel
theorem dX7_hiddenFlag_9 : decode cX7_hiddenFlag 9 = .ok (.ifCond .eq 7, 3) := by decide +kernel
theorem dX7_hiddenFlag_12 : decode cX7_hiddenFlag 12 = .ok (.iconst 1, 1) := by decide +kernel
theorem dX7_hiddenFlag_13 : decode cX7_hiddenFlag 13 = .ok (.goto 4, 3) := by decide +kernel
theorem dX7_hiddenFlag_16 : decode cX7_hiddenFlag 16 = .ok (.iconst 0, 1) := by decide +kernel
theorem dX7_hiddenFlag_17 : decode cX7_hiddenFlag 17 = .ok (.ireturn, 1) := by decide +kernel
theorem dX7_failInvalid_0 : decode cX7_failInvalid 0 = .ok (.aload_n 0, 1) := by decide +kernel
theorem dX7_failInvalid_1 : decode cX7_failInvalid 1 = .ok (.dup, 1) := by decide +kernel
theorem dX7_failInvalid_2 : decode cX7_failInvalid 2 = .ok (.getfield 158, 3) := by decide +kernel
theorem dX7_failInvalid_5 : decode cX7_failInvalid 5 = .ok (.iconst 1, 1) := by decide +kernel
theorem dX7_failInvalid_6 : decode cX7_failInvalid 6 = .ok (.iadd, 1) := by decide +kernel
theorem dX7_failInvalid_7 : decode cX7_failInvalid 7 = .ok (.putfield 158, 3) := by decide +kernel
theorem dX7_failInvalid_10 : decode cX7_failInvalid 10 = .ok (.bipush (-2), 2) := by decide +kernel
theorem dX7_failInvalid_12 : decode cX7_failInvalid 12 = .ok (.ireturn, 1) := by decide +kernel
theorem dX7_failRejected_0 : decode cX7_failRejected 0 = .ok (.aload_n 0, 1) := by decide +kernel
theorem dX7_failRejected_1 : decode cX7_failRejected 1 = .ok (.dup, 1) := by decide +kernel
theorem dX7_failRejected_2 : decode cX7_failRejected 2 = .ok (.getfield 161, 3) := by decide +kernel
theorem dX7_failRejected_5 : decode cX7_failRejected 5 = .ok (.iconst 1, 1) := by decide +kernel
theorem dX7_failRejected_6 : decode cX7_failRejected 6 = .ok (.iadd, 1) := by decide +kernel
theorem dX7_failRejected_7 : decode cX7_failRejected 7 = .ok (.putfield 161, 3) := by decide +kernel
theorem dX7_failRejected_10 : decode cX7_failRejected 10 = .ok (.bipush (-3), 2) := by decide +kernel
theorem dX7_failRejected_12 : decode cX7_failRejected 12 = .ok (.ireturn, 1) := by decide +kernel
theorem dX7_failFull_0 : decode cX7_failFull 0 = .ok (.aload_n 0, 1) := by decide +kernel
theorem dX7_failFull_1 : decode cX7_failFull 1 = .ok (.dup, 1) := by decide +kernel
theorem dX7_failFull_2 : decode cX7_failFull 2 = .ok (.getfield 164, 3) := by decide +kernel
theorem dX7_failFull_5 : decode cX7_failFull 5 = .ok (.iconst 1, 1) := by decide +kernel
theorem dX7_failFull_6 : decode cX7_failFull 6 = .ok (.iadd, 1) := by decide +kernel
theorem dX7_failFull_7 : decode cX7_failFull 7 = .ok (.putfield 164, 3) := by decide +kernel
theorem dX7_failFull_10 : decode cX7_failFull 10 = .ok (.bipush (-4), 2) := by decide +kernel
theorem dX7_failFull_12 : decode cX7_failFull 12 = .ok (.ireturn, 1) := by decide +kernel
theorem dX7_isSize_0 : decode cX7_isSize 0 = .ok (.iload_n 0, 1) := by decide +kernel
theorem dX7_isSize_1 : decode cX7_isSize 1 = .ok (.iconst 1, 1) := by decide +kernel
theorem dX7_isSize_2 : decode cX7_isSize 2 = .ok (.if_icmp .lt 13, 3) := by decide +kernel
theorem dX7_isSize_5 : decode cX7_isSize 5 = .ok (.iload_n 0, 1) := by decide +kernel
theorem dX7_isSize_6 : decode cX7_isSize 6 = .ok (.bipush 99, 2) := by decide +kernel
theorem dX7_isSize_8 : decode cX7_isSize 8 = .ok (.if_icmp .gt 7, 3) := by decide +kernel
theorem dX7_isSize_11 : decode cX7_isSize 11 = .ok (.iconst 1, 1) := by decide +kernel
theorem dX7_isSize_12 : decode cX7_isSize 12 = .ok (.goto 4, 3) := by decide +kernel
theorem dX7_isSize_15 : decode cX7_isSize 15 = .ok (.iconst 0, 1) := by decide +kernel
theorem dX7_isSize_16 : decode cX7_isSize 16 = .ok (.ireturn, 1) := by decide +kernel
theorem dX7_isSide_0 : decode cX7_isSide 0 = .ok (.iload_n 0, 1) := by decide +kernel
theorem dX7_isSide_1 : decode cX7_isSide 1 = .ok (.iconst 1, 1) := by decide +kernel
theorem dX7_isSide_2 : decode cX7_isSide 2 = .ok (.if_icmp .lt 14, 3) := by decide +kernel
theorem dX7_isSide_5 : decode cX7_isSide 5 = .ok (.iload_n 0, 1) := by decide +kernel
theorem dX7_isSide_6 : decode cX7_isSide 6 = .ok (.sipush 200, 3) := by decide +kernel
theorem dX7_isSide_9 : decode cX7_isSide 9 = .ok (.if_icmp .gt 7, 3) := by decide +kernel
theorem dX7_isSide_12 : decode cX7_isSide 12 = .ok (.iconst 1, 1) := by decide +kernel
theorem dX7_isSide_13 : decode cX7_isSide 13 = .ok (.goto 4, 3) := by decide +kernel
theorem dX7_isSide_16 : decode cX7_isSide 16 = .ok (.iconst 0, 1) := by decide +kernel
theorem dX7_isSide_17 : decode cX7_isSide 17 = .ok (.ireturn, 1) := by decide +kernel
theorem dX7_floatBits_0 : decode cX7_floatBits 0 = .ok (.fload_n 0, 1) := by decide +kernel
theorem dX7_floatBits_1 : decode cX7_floatBits 1 = .ok (.fstore_n 1, 1) := by decide +kernel
theorem dX7_floatBits_2 : decode cX7_floatBits 2 = .ok (.iconst 0, 1) := by decide +kernel
theorem dX7_floatBits_3 : decode cX7_floatBits 3 = .ok (.istore_n 2, 1) := by decide +kernel
theorem dX7_floatBits_4 : decode cX7_floatBits 4 = .ok (.fload_n 1, 1) := by decide +kernel
theorem dX7_floatBits_5 : decode cX7_floatBits 5 = .ok (.fconst 2, 1) := by decide +kernel
theorem dX7_floatBits_6 : decode cX7_floatBits 6 = .ok (.fcmp .l, 1) := by decide +kernel
theorem dX7_floatBits_7 : decode cX7_floatBits 7 = .ok (.ifCond .lt 19, 3) := by decide +kernel
theorem dX7_floatBits_10 : decode cX7_floatBits 10 = .ok (.iload_n 2, 1) := by decide +kernel
theorem dX7_floatBits_11 : decode cX7_floatBits 11 = .ok (.bipush 127, 2) := by decide +kernel
theorem dX7_floatBits_13 : decode cX7_floatBits 13 = .ok (.if_icmp .ge 13, 3) := by decide +kernel
theorem dX7_floatBits_16 : decode cX7_floatBits 16 = .ok (.fload_n 1, 1) := by decide +kernel
theorem dX7_floatBits_17 : decode cX7_floatBits 17 = .ok (.fconst 2, 1) := by decide +kernel
theorem dX7_floatBits_18 : decode cX7_floatBits 18 = .ok (.fdiv, 1) := by decide +kernel
theorem dX7_floatBits_19 : decode cX7_floatBits 19 = .ok (.fstore_n 1, 1) := by decide +kernel
theorem dX7_floatBits_20 : decode cX7_floatBits 20 = .ok (.iinc 2 1, 3) := by decide +kernel
theorem dX7_floatBits_23 : decode cX7_floatBits 23 = .ok (.goto (-19), 3) := by decide +kernel
theorem dX7_floatBits_26 : decode cX7_floatBits 26 = .ok (.fload_n 1, 1) := by decide +kernel
theorem dX7_floatBits_27 : decode cX7_floatBits 27 = .ok (.ldc 191, 2) := by decide +kernel
theorem dX7_floatBits_29 : decode cX7_floatBits 29 = .ok (.fmul, 1) := by decide +kernel
theorem dX7_floatBits_30 : decode cX7_floatBits 30 = .ok (.f2i, 1) := by decide +kernel
theorem dX7_floatBits_31 : decode cX7_floatBits 31 = .ok (.ldc 192, 2) := by decide +kernel
theorem dX7_floatBits_33 : decode cX7_floatBits 33 = .ok (.isub, 1) := by decide +kernel
theorem dX7_floatBits_34 : decode cX7_floatBits 34 = .ok (.istore_n 3, 1) := by decide +kernel
theorem dX7_floatBits_35 : decode cX7_floatBits 35 = .ok (.bipush 127, 2) := by decide +kernel
theorem dX7_floatBits_37 : decode cX7_floatBits 37 = .ok (.iload_n 2, 1) := by decide +kernel
theorem dX7_floatBits_38 : decode cX7_floatBits 38 = .ok (.iadd, 1) := by decide +kernel
theorem dX7_floatBits_39 : decode cX7_floatBits 39 = .ok (.bipush 23, 2) := by decide +kernel
theorem dX7_floatBits_41 : decode cX7_floatBits 41 = .ok (.ishl, 1) := by decide +kernel
theorem dX7_floatBits_42 : decode cX7_floatBits 42 = .ok (.iload_n 3, 1) := by decide +kernel
theorem dX7_floatBits_43 : decode cX7_floatBits 43 = .ok (.iadd, 1) := by decide +kernel
theorem dX7_floatBits_44 : decode cX7_floatBits 44 = .ok (.ireturn, 1) := by decide +kernel
theorem dX8_init_0 : decode cX8_init 0 = .ok (.aload_n 0, 1) := by decide +kernel
theorem dX8_init_1 : decode cX8_init 1 = .ok (.invokespecial 1, 3) := by decide +kernel
theorem dX8_init_4 : decode cX8_init 4 = .ok (.aload_n 0, 1) := by decide +kernel
theorem dX8_init_5 : decode cX8_init 5 = .ok (.bipush 53, 2) := by decide +kernel
theorem dX8_init_7 : decode cX8_init 7 = .ok (.newarray .int, 2) := by decide +kernel
theorem dX8_init_9 : decode cX8_init 9 = .ok (.putfield 7, 3) := by decide +kernel
theorem dX8_init_12 : decode cX8_init 12 = .ok (.aload_n 0, 1) := by decide +kernel
theorem dX8_init_13 : decode cX8_init 13 = .ok (.sipush 212, 3) := by decide +kernel
theorem dX8_init_16 : decode cX8_init 16 = .ok (.newarray .int, 2) := by decide +kernel
theorem dX8_init_18 : decode cX8_init 18 = .ok (.putfield 13, 3) := by decide +kernel
theorem dX8_init_21 : decode cX8_init 21 = .ok (.aload_n 0, 1) := by decide +kernel
theorem dX8_init_22 : decode cX8_init 22 = .ok (.iconst 3, 1) := by decide +kernel
theorem dX8_init_23 : decode cX8_init 23 = .ok (.newarray .int, 2) := by decide +kernel
theorem dX8_init_25 : decode cX8_init 25 = .ok (.putfield 16, 3) := by decide +kernel
theorem dX8_init_28 : decode cX8_init 28 = .ok (.aload_n 0, 1) := by decide +kernel
theorem dX8_init_29 : decode cX8_init 29 = .ok (.bipush 24, 2) := by decide +kernel
theorem dX8_init_31 : decode cX8_init 31 = .ok (.newarray .int, 2) := by decide +kernel
theorem dX8_init_33 : decode cX8_init 33 = .ok (.putfield 19, 3) := by decide +kernel
theorem dX8_init_36 : decode cX8_init 36 = .ok (.aload_n 0, 1) := by decide +kernel
theorem dX8_init_37 : decode cX8_init 37 = .ok (.bipush 24, 2) := by decide +kernel
theorem dX8_init_39 : decode cX8_init 39 = .ok (.newarray .int, 2) := by decide +kernel
theorem dX8_init_41 : decode cX8_init 41 = .ok (.putfield 22, 3) := by decide +kernel
theorem dX8_init_44 : decode cX8_init 44 = .ok (.aload_n 0, 1) := by decide +kernel
theorem dX8_init_45 : decode cX8_init 45 = .ok (.bipush 24, 2) := by decide +kernel
theorem dX8_init_47 : decode cX8_init 47 = .ok (.newarray .int, 2) := by decide +kernel
theorem dX8_init_49 : decode cX8_init 49 = .ok (.putfield 25, 3) := by decide +kernel
theorem dX8_init_52 : decode cX8_init 52 = .ok (.aload_n 0, 1) := by decide +kernel
theorem dX8_init_53 : decode cX8_init 53 = .ok (.bipush 24, 2) := by decide +kernel
theorem dX8_init_55 : decode cX8_init 55 = .ok (.newarray .int, 2) := by decide +kernel
theorem dX8_init_57 : decode cX8_init 57 = .ok (.putfield 28, 3) := by decide +kernel
theorem dX8_init_60 : decode cX8_init 60 = .ok (.aload_n 0, 1) := by decide +kernel
theorem dX8_init_61 : decode cX8_init 61 = .ok (.bipush 24, 2) := by decide +kernel
theorem dX8_init_63 : decode cX8_init 63 = .ok (.newarray .int, 2) := by decide +kernel
theorem dX8_init_65 : decode cX8_init 65 = .ok (.putfield 31, 3) := by decide +kernel
theorem dX8_init_68 : decode cX8_init 68 = .ok (.aload_n 0, 1) := by decide +kernel
theorem dX8_init_69 : decode cX8_init 69 = .ok (.bipush 24, 2) := by decide +kernel
theorem dX8_init_71 : decode cX8_init 71 = .ok (.newarray .int, 2) := by decide +kernel
theorem dX8_init_73 : decode cX8_init 73 = .ok (.putfield 34, 3) := by decide +kernel
theorem dX8_init_76 : decode cX8_init 76 = .ok (.aload_n 0, 1) := by decide +kernel
theorem dX8_init_77 : decode cX8_init 77 = .ok (.bipush 24, 2) := by decide +kernel
theorem dX8_init_79 : decode cX8_init 79 = .ok (.newarray .boolean, 2) := by decide +kernel
theorem dX8_init_81 : decode cX8_init 81 = .ok (.putfield 37, 3) := by decide +kernel
theorem dX8_init_84 : decode cX8_init 84 = .ok (.aload_n 0, 1) := by decide +kernel
theorem dX8_init_85 : decode cX8_init 85 = .ok (.bipush 24, 2) := by decide +kernel
theorem dX8_init_87 : decode cX8_init 87 = .ok (.newarray .int, 2) := by decide +kernel
theorem dX8_init_89 : decode cX8_init 89 = .ok (.putfield 41, 3) := by decide +kernel
theorem dX8_init_92 : decode cX8_init 92 = .ok (.aload_n 0, 1) := by decide +kernel
theorem dX8_init_93 : decode cX8_init 93 = .ok (.bipush 24, 2) := by decide +kernel
theorem dX8_init_95 : decode cX8_init 95 = .ok (.newarray .int, 2) := by decide +kernel
theorem dX8_init_97 : decode cX8_init 97 = .ok (.putfield 44, 3) := by decide +kernel
theorem dX8_init_100 : decode cX8_init 100 = .ok (.aload_n 0, 1) := by decide +kernel
theorem dX8_init_101 : decode cX8_init 101 = .ok (.bipush 25, 2) := by decide +kernel
theorem dX8_init_103 : decode cX8_init 103 = .ok (.newarray .int, 2) := by decide +kernel
theorem dX8_init_105 : decode cX8_init 105 = .ok (.putfield 47, 3) := by decide +kernel
theorem dX8_init_108 : decode cX8_init 108 = .ok (.aload_n 0, 1) := by decide +kernel
theorem dX8_init_109 : decode cX8_init 109 = .ok (.bipush 24, 2) := by decide +kernel
theorem dX8_init_111 : decode cX8_init 111 = .ok (.newarray .int, 2) := by decide +kernel
theorem dX8_init_113 : decode cX8_init 113 = .ok (.putfield 50, 3) := by decide +kernel
theorem dX8_init_116 : decode cX8_init 116 = .ok (.aload_n 0, 1) := by decide +kernel
theorem dX8_init_117 : decode cX8_init 117 = .ok (.bipush 96, 2) := by decide +kernel
theorem dX8_init_119 : decode cX8_init 119 = .ok (.newarray .int, 2) := by decide +kernel
theorem dX8_init_121 : decode cX8_init 121 = .ok (.putfield 53, 3) := by decide +kernel
theorem dX8_init_124 : decode cX8_init 124 = .ok (.aload_n 0, 1) := by decide +kernel
theorem dX8_init_125 : decode cX8_init 125 = .ok (.getfield 7, 3) := by decide +kernel
theorem dX8_init_128 : decode cX8_init 128 = .ok (.iconst 0, 1) := by decide +kernel
theorem dX8_init_129 : decode cX8_init 129 = .ok (.iconst 1, 1) := by decide +kernel
theorem dX8_init_130 : decode cX8_init 130 = .ok (.iastore, 1) := by decide +kernel
theorem dX8_init_131 : decode cX8_init 131 = .ok (.aload_n 0, 1) := by decide +kernel
theorem dX8_init_132 : decode cX8_init 132 = .ok (.getfield 7, 3) := by decide +kernel
theorem dX8_init_135 : decode cX8_init 135 = .ok (.iconst 1, 1) := by decide +kernel
theorem dX8_init_136 : decode cX8_init 136 = .ok (.bipush 100, 2) := by decide +kernel
theorem dX8_init_138 : decode cX8_init 138 = .ok (.iastore, 1) := by decide +kernel
theorem dX8_init_139 : decode cX8_init 139 = .ok (.aload_n 0, 1) := by decide +kernel
theorem dX8_init_140 : decode cX8_init 140 = .ok (.getfield 7, 3) := by decide +kernel
theorem dX8_init_143 : decode cX8_init 143 = .ok (.iconst 2, 1) := by decide +kernel
theorem dX8_init_144 : decode cX8_init 144 = .ok (.bipush 60, 2) := by decide +kernel
theorem dX8_init_146 : decode cX8_init 146 = .ok (.iastore, 1) := by decide +kernel
theorem dX8_init_147 : decode cX8_init 147 = .ok (.aload_n 0, 1) := by decide +kernel
theorem dX8_init_148 : decode cX8_init 148 = .ok (.getfield 7, 3) := by decide +kernel
theorem dX8_init_151 : decode cX8_init 151 = .ok (.iconst 4, 1) := by decide +kernel
theorem dX8_init_152 : decode cX8_init 152 = .ok (.iconst 1, 1) := by decide +kernel
theorem dX8_init_153 : decode cX8_init 153 = .ok (.iastore, 1) := by decide +kernel
theorem dX8_init_154 : decode cX8_init 154 = .ok (.aload_n 0, 1) := by decide +kernel
theorem dX8_init_155 : decode cX8_init 155 = .ok (.getfield 7, 3) := by decide +kernel
theorem dX8_init_158 : decode cX8_init 158 = .ok (.iconst 5, 1) := by decide +kernel
theorem dX8_init_159 : decode cX8_init 159 = .ok (.iconst 1, 1) := by decide +kernel
theorem dX8_init_160 : decode cX8_init 160 = .ok (.iastore, 1) := by decide +kernel
theorem dX8_init_161 : decode cX8_init 161 = .ok (.aload_n 0, 1) := by decide +kernel
theorem dX8_init_162 : decode cX8_init 162 = .ok (.getfield 7, 3) := by decide +kernel
theorem dX8_init_165 : decode cX8_init 165 = .ok (.bipush 29, 2) := by decide +kernel
theorem dX8_init_167 : decode cX8_init 167 = .ok (.iconst (-1), 1) := by decide +kernel
theorem dX8_init_168 : decode cX8_init 168 = .ok (.iastore, 1) := by decide +kernel
theorem dX8_init_169 : decode cX8_init 169 = .ok (.return_, 1) := by decide +kernel
theorem dX8_within_0 : decode cX8_within 0 = .ok (.iload_n 0, 1) := by decide +kernel
theorem dX8_within_1 : decode cX8_within 1 = .ok (.iload_n 1, 1) := by decide +kernel
theorem dX8_within_2 : decode cX8_within 2 = .ok (.if_icmp .lt 12, 3) := by decide +kernel
theorem dX8_within_5 : decode cX8_within 5 = .ok (.iload_n 0, 1) := by decide +kernel
theorem dX8_within_6 : decode cX8_within 6 = .ok (.iload_n 2, 1) := by decide +kernel
theorem dX8_within_7 : decode cX8_within 7 = .ok (.if_icmp .gt 7, 3) := by decide +kernel
theorem dX8_within_10 : decode cX8_within 10 = .ok (.iconst 1, 1) := by decide +kernel
theorem dX8_within_11 : decode cX8_within 11 = .ok (.goto 4, 3) := by decide +kernel
theorem dX8_within_14 : decode cX8_within 14 = .ok (.iconst 0, 1) := by decide +kernel
theorem dX8_within_15 : decode cX8_within 15 = .ok (.ireturn, 1) := by decide +kernel
theorem dX8_fails_0 : decode cX8_fails 0 = .ok (.aload_n 0, 1) := by decide +kernel
theorem dX8_fails_1 : decode cX8_fails 1 = .ok (.getfield 16, 3) := by decide +kernel
theorem dX8_fails_4 : decode cX8_fails 4 = .ok (.bipush (-2), 2) := by decide +kernel
theorem dX8_fails_6 : decode cX8_fails 6 = .ok (.iload_n 1, 1) := by decide +kernel
theorem dX8_fails_7 : decode cX8_fails 7 = .ok (.isub, 1) := by decide +kernel
theorem dX8_fails_8 : decode cX8_fails 8 = .ok (.dup2, 1) := by decide +kernel
theorem dX8_fails_9 : decode cX8_fails 9 = .ok (.iaload, 1) := by decide +kernel
theorem dX8_fails_10 : decode cX8_fails 10 = .ok (.iconst 1, 1) := by decide +kernel
theorem dX8_fails_11 : decode cX8_fails 11 = .ok (.iadd, 1) := by decide +kernel
theorem dX8_fails_12 : decode cX8_fails 12 = .ok (.iastore, 1) := by decide +kernel
theorem dX8_fails_13 : decode cX8_fails 13 = .ok (.iload_n 1, 1) := by decide +kernel
theorem dX8_fails_14 : decode cX8_fails 14 = .ok (.ireturn, 1) := by decide +kernel
set_option maxRecDepth 20000 in
theorem ggX8_isNode_X8_within : GoodIn wsX8_isNode wsX8_within := goodIn_r _ [5] (by decide +kernel) (by decide +kernel)
set_option maxRecDepth 20000 in
theorem gX8_isNode_X8_within : GoodIn wsX8_isNode (va_wsS RX8 56 yX8_within wsX8_within) := goodIn_app (goodIn_of _ (by decide +kernel)) ggX8_isNode_X8_within
theorem dX8_isNode_0 : decode cX8_isNode 0 = .ok (.iload_n 1, 1) := by decide +kernel
theorem dX8_isNode_1 : decode cX8_isNode 1 = .ok (.iconst 0, 1) := by decide +kernel
theorem dX8_isNode_2 : decode cX8_isNode 2 = .ok (.aload_n 0, 1) := by decide +kernel
theorem dX8_isNode_3 : decode cX8_isNode 3 = .ok (.getfield 7, 3) := by decide +kernel
theorem dX8_isNode_6 : decode cX8_isNode 6 = .ok (.iconst 0, 1) := by decide +kernel
theorem dX8_isNode_7 : decode cX8_isNode 7 = .ok (.iaload, 1) := by decide +kernel
theorem dX8_isNode_8 : decode cX8_isNode 8 = .ok (.iconst 1, 1) := by decide +kernel
theorem dX8_isNode_9 : decode cX8_isNode 9 = .ok (.isub, 1) := by decide +kernel
theorem dX8_isNode_10 : decode cX8_isNode 10 = .ok (.invokestatic 56, 3) := by decide +kernel
theorem dX8_isNode_13 : decode cX8_isNode 13 = .ok (.ireturn, 1) := by decide +kernel
theorem dX8_saves_0 : decode cX8_saves 0 = .ok (.aload_n 0, 1) := by decide +kernel
theorem dX8_saves_1 : decode cX8_saves 1 = .ok (.getfield 60, 3) := by decide +kernel
theorem dX8_saves_4 : decode cX8_saves 4 = .ok (.iconst 4, 1) := by decide +kernel
theorem dX8_saves_5 : decode cX8_saves 5 = .ok (.if_icmp .ne 43, 3) := by decide +kernel
theorem dX8_saves_8 : decode cX8_saves 8 = .ok (.iconst 0, 1) := by decide +kernel
theorem dX8_saves_9 : decode cX8_saves 9 = .ok (.istore_n 1, 1) := by decide +kernel
theorem dX8_saves_10 : decode cX8_saves 10 = .ok (.iload_n 1, 1) := by decide +kernel
theorem dX8_saves_11 : decode cX8_saves 11 = .ok (.sipush 159, 3) := by decide +kernel
theorem dX8_saves_14 : decode cX8_saves 14 = .ok (.if_icmp .ge 24, 3) := by decide +kernel
theorem dX8_saves_17 : decode cX8_saves 17 = .ok (.aload_n 0, 1) := by decide +kernel
theorem dX8_saves_18 : decode cX8_saves 18 = .ok (.getfield 13, 3) := by decide +kernel
theorem dX8_saves_21 : decode cX8_saves 21 = .ok (.iload_n 1, 1) := by decide +kernel
theorem dX8_saves_22 : decode cX8_saves 22 = .ok (.aload_n 0, 1) := by decide +kernel
theorem dX8_saves_23 : decode cX8_saves 23 = .ok (.getfield 13, 3) := by decide +kernel
theorem dX8_saves_26 : decode cX8_saves 26 = .ok (.iload_n 1, 1) := by decide +kernel
theorem dX8_saves_27 : decode cX8_saves 27 = .ok (.bipush 53, 2) := by decide +kernel
theorem dX8_saves_29 : decode cX8_saves 29 = .ok (.iadd, 1) := by decide +kernel
theorem dX8_saves_30 : decode cX8_saves 30 = .ok (.iaload, 1) := by decide +kernel
theorem dX8_saves_31 : decode cX8_saves 31 = .ok (.iastore, 1) := by decide +kernel
theorem dX8_saves_32 : decode cX8_saves 32 = .ok (.iinc 1 1, 3) := by decide +kernel
theorem dX8_saves_35 : decode cX8_saves 35 = .ok (.goto (-25), 3) := by decide +kernel
theorem dX8_saves_38 : decode cX8_saves 38 = .ok (.aload_n 0, 1) := by decide +kernel
theorem dX8_saves_39 : decode cX8_saves 39 = .ok (.dup, 1) := by decide +kernel
theorem dX8_saves_40 : decode cX8_saves 40 = .ok (.getfield 60, 3) := by decide +kernel
theorem dX8_saves_43 : decode cX8_saves 43 = .ok (.iconst 1, 1) := by decide +kernel
theorem dX8_saves_44 : decode cX8_saves 44 = .ok (.isub, 1) := by decide +kernel
theorem dX8_saves_45 : decode cX8_saves 45 = .ok (.putfield 60, 3) := by decide +kernel
theorem dX8_saves_48 : decode cX8_saves 48 = .ok (.iconst 0, 1) := by decide +kernel
theorem dX8_saves_49 : decode cX8_saves 49 = .ok (.istore_n 1, 1) := by decide +kernel
theorem dX8_saves_50 : decode cX8_saves 50 = .ok (.iload_n 1, 1) := by decide +kernel
theorem dX8_saves_51 : decode cX8_saves 51 = .ok (.bipush 53, 2) := by decide +kernel
theorem dX8_saves_53 : decode cX8_saves 53 = .ok (.if_icmp .ge 29, 3) := by decide +kernel
theorem dX8_saves_56 : decode cX8_saves 56 = .ok (.aload_n 0, 1) := by decide +kernel
theorem dX8_saves_57 : decode cX8_saves 57 = .ok (.getfield 13, 3) := by decide +kernel
theorem dX8_saves_60 : decode cX8_saves 60 = .ok (.bipush 53, 2) := by decide +kernel
theorem dX8_saves_62 : decode cX8_saves 62 = .ok (.aload_n 0, 1) := by decide +kernel
theorem dX8_saves_63 : decode cX8_saves 63 = .ok (.getfield 60, 3) := by decide +kernel
theorem dX8_saves_66 : decode cX8_saves 66 = .ok (.imul, 1) := by decide +kernel
theorem dX8_saves_67 : decode cX8_saves 67 = .ok (.iload_n 1, 1) := by decide +kernel
theorem dX8_saves_68 : decode cX8_saves 68 = .ok (.iadd, 1) := by decide +kernel
theorem dX8_saves_69 : decode cX8_saves 69 = .ok (.aload_n 0, 1) := by decide +kernel
theorem dX8_saves_70 : decode cX8_saves 70 = .ok (.getfield 7, 3) := by decide +kernel
theorem dX8_saves_73 : decode cX8_saves 73 = .ok (.iload_n 1, 1) := by decide +kernel
theorem dX8_saves_74 : decode cX8_saves 74 = .ok (.iaload, 1) := by decide +kernel
theorem dX8_saves_75 : decode cX8_saves 75 = .ok (.iastore, 1) := by decide +kernel
theorem dX8_saves_76 : decode cX8_saves 76 = .ok (.iinc 1 1, 3) := by decide +kernel
theorem dX8_saves_79 : decode cX8_saves 79 = .ok (.goto (-29), 3) := by decide +kernel
theorem dX8_saves_82 : decode cX8_saves 82 = .ok (.aload_n 0, 1) := by decide +kernel
theorem dX8_saves_83 : decode cX8_saves 83 = .ok (.dup, 1) := by decide +kernel
theorem dX8_saves_84 : decode cX8_saves 84 = .ok (.getfield 60, 3) := by decide +kernel
theorem dX8_saves_87 : decode cX8_saves 87 = .ok (.iconst 1, 1) := by decide +kernel
theorem dX8_saves_88 : decode cX8_saves 88 = .ok (.iadd, 1) := by decide +kernel
theorem dX8_saves_89 : decode cX8_saves 89 = .ok (.putfield 60, 3) := by decide +kernel
theorem dX8_saves_92 : decode cX8_saves 92 = .ok (.return_, 1) := by decide +kernel
set_option maxRecDepth 20000 in
theorem ggX8_undo_X8_fails : GoodIn wsX8_undo wsX8_fails := goodIn_r _ [8, 9, 10, 11, 12, 13, 14, 15, 16, 17, 18, 19, 20, 21, 22, 23, 24, 25, 26, 27] (by decide +kernel) (by decide +kernel)
set_option maxRecDepth 20000 in
theorem gX8_undo_X8_fails : GoodIn wsX8_undo (wsV RX8 64 RX8 yX8_fails wsX8_fails) := goodIn_app (goodIn_of _ (by decide +kernel)) ggX8_undo_X8_fails
theorem dX8_undo_0 : decode cX8_undo 0 = .ok (.aload_n 0, 1) := by decide +kernel
theorem dX8_undo_1 : decode cX8_undo 1 = .ok (.getfield 60, 3) := by decide +kernel
theorem dX8_undo_4 : decode cX8_undo 4 = .ok (.ifCond .ne 10, 3) := by decide +kernel
theorem dX8_undo_7 : decode cX8_undo 7 = .ok (.aload_n 0, 1) := by decide +kernel
theorem dX8_undo_8 : decode cX8_undo 8 = .ok (.bipush (-3), 2) := by decide +kernel
theorem dX8_undo_10 : decode cX8_undo 10 = .ok (.invokevirtual 64, 3) := by decide +kernel
theorem dX8_undo_13 : decode cX8_undo 13 = .ok (.ireturn, 1) := by decide +kernel
theorem dX8_undo_14 : decode cX8_undo 14 = .ok (.aload_n 0, 1) := by decide +kernel
theorem dX8_undo_15 : decode cX8_undo 15 = .ok (.dup, 1) := by decide +kernel
theorem dX8_undo_16 : decode cX8_undo 16 = .ok (.getfield 60, 3) := by decide +kernel
theorem dX8_undo_19 : decode cX8_undo 19 = .ok (.iconst 1, 1) := by decide +kernel
theorem dX8_undo_20 : decode cX8_undo 20 = .ok (.isub, 1) := by decide +kernel
theorem dX8_undo_21 : decode cX8_undo 21 = .ok (.putfield 60, 3) := by decide +kernel
theorem dX8_undo_24 : decode cX8_undo 24 = .ok (.iconst 0, 1) := by decide +kernel
theorem dX8_undo_25 : decode cX8_undo 25 = .ok (.istore_n 1, 1) := by decide +kernel
theorem dX8_undo_26 : decode cX8_undo 26 = .ok (.iload_n 1, 1) := by decide +kernel
theorem dX8_undo_27 : decode cX8_undo 27 = .ok (.bipush 53, 2) := by decide +kernel
theorem dX8_undo_29 : decode cX8_undo 29 = .ok (.if_icmp .ge 29, 3) := by decide +kernel
theorem dX8_undo_32 : decode cX8_undo 32 = .ok (.aload_n 0, 1) := by decide +kernel
theorem dX8_undo_33 : decode cX8_undo 33 = .ok (.getfield 7, 3) := by decide +kernel
theorem dX8_undo_36 : decode cX8_undo 36 = .ok (.iload_n 1, 1) := by decide +kernel
theorem dX8_undo_37 : decode cX8_undo 37 = .ok (.aload_n 0, 1) := by decide +kernel
theorem dX8_undo_38 : decode cX8_undo 38 = .ok (.getfield 13, 3) := by decide +kernel
theorem dX8_undo_41 : decode cX8_undo 41 = .ok (.bipush 53, 2) := by decide +kernel
theorem dX8_undo_43 : decode cX8_undo 43 = .ok (.aload_n 0, 1) := by decide +kernel
theorem dX8_undo_44 : decode cX8_undo 44 = .ok (.getfield 60, 3) := by decide +kernel
theorem dX8_undo_47 : decode cX8_undo 47 = .ok (.imul, 1) := by decide +kernel
theorem dX8_undo_48 : decode cX8_undo 48 = .ok (.iload_n 1, 1) := by decide +kernel
theorem dX8_undo_49 : decode cX8_undo 49 = .ok (.iadd, 1) := by decide +kernel
theorem dX8_undo_50 : decode cX8_undo 50 = .ok (.iaload, 1) := by decide +kernel
theorem dX8_undo_51 : decode cX8_undo 51 = .ok (.iastore, 1) := by decide +kernel
theorem dX8_undo_52 : decode cX8_undo 52 = .ok (.iinc 1 1, 3) := by decide +kernel
theorem dX8_undo_55 : decode cX8_undo 55 = .ok (.goto (-29), 3) := by decide +kernel
theorem dX8_undo_58 : decode cX8_undo 58 = .ok (.aload_n 0, 1) := by decide +kernel
theorem dX8_undo_59 : decode cX8_undo 59 = .ok (.getfield 60, 3) := by decide +kernel
theorem dX8_undo_62 : decode cX8_undo 62 = .ok (.ireturn, 1) := by decide +kernel
theorem dX8_childMany_0 : decode cX8_childMany 0 = .ok (.iconst 0, 1) := by decide +kernel
theorem dX8_childMany_1 : decode cX8_childMany 1 = .ok (.istore_n 2, 1) := by decide +kernel
theorem dX8_childMany_2 : decode cX8_childMany 2 = .ok (.iconst 0, 1) := by decide +kernel
theorem dX8_childMany_3 : decode cX8_childMany 3 = .ok (.istore_n 3, 1) := by decide +kernel
theorem dX8_childMany_4 : decode cX8_childMany 4 = .ok (.iload_n 3, 1) := by decide +kernel
theorem dX8_childMany_5 : decode cX8_childMany 5 = .ok (.aload_n 0, 1) := by decide +kernel
theorem dX8_childMany_6 : decode cX8_childMany 6 = .ok (.getfield 7, 3) := by decide +kernel
theorem dX8_childMany_9 : decode cX8_childMany 9 = .ok (.iconst 0, 1) := by decide +kernel
theorem dX8_childMany_10 : decode cX8_childMany 10 = .ok (.iaload, 1) := by decide +kernel
theorem dX8_childMany_11 : decode cX8_childMany 11 = .ok (.if_icmp .ge 30, 3) := by decide +kernel
theorem dX8_childMany_14 : decode cX8_childMany 14 = .ok (.iload_n 2, 1) := by decide +kernel
theorem dX8_childMany_15 : decode cX8_childMany 15 = .ok (.aload_n 0, 1) := by decide +kernel
theorem dX8_childMany_16 : decode cX8_childMany 16 = .ok (.getfield 7, 3) := by decide +kernel
theorem dX8_childMany_19 : decode cX8_childMany 19 = .ok (.bipush 29, 2) := by decide +kernel
theorem dX8_childMany_21 : decode cX8_childMany 21 = .ok (.iload_n 3, 1) := by decide +kernel
theorem dX8_childMany_22 : decode cX8_childMany 22 = .ok (.iadd, 1) := by decide +kernel
theorem dX8_childMany_23 : decode cX8_childMany 23 = .ok (.iaload, 1) := by decide +kernel
theorem dX8_childMany_24 : decode cX8_childMany 24 = .ok (.iload_n 1, 1) := by decide +kernel
theorem dX8_childMany_25 : decode cX8_childMany 25 = .ok (.if_icmp .ne 7, 3) := by decide +kernel
theorem dX8_childMany_28 : decode cX8_childMany 28 = .ok (.iconst 1, 1) := by decide +kernel
theorem dX8_childMany_29 : decode cX8_childMany 29 = .ok (.goto 4, 3) := by decide +kernel
theorem dX8_childMany_32 : decode cX8_childMany 32 = .ok (.iconst 0, 1) := by decide +kernel
theorem dX8_childMany_33 : decode cX8_childMany 33 = .ok (.iadd, 1) := by decide +kernel
theorem dX8_childMany_34 : decode cX8_childMany 34 = .ok (.istore_n 2, 1) := by decide +kernel
theorem dX8_childMany_35 : decode cX8_childMany 35 = .ok (.iinc 3 1, 3) := by decide +kernel
theorem dX8_childMany_38 : decode cX8_childMany 38 = .ok (.goto (-34), 3) := by decide +kernel
theorem dX8_childMany_41 : decode cX8_childMany 41 = .ok (.iload_n 2, 1) := by decide +kernel
theorem dX8_childMany_42 : decode cX8_childMany 42 = .ok (.ireturn, 1) := by decide +kernel
set_option maxRecDepth 20000 in
theorem ggX8_sizeOf_X8_childMany : GoodIn wsX8_sizeOf wsX8_childMany := goodIn_r _ [6, 1, 11, 12, 13, 14, 15, 16, 17, 18, 19, 20, 21, 22, 23, 24, 25, 26, 27, 28] (by decide +kernel) (by decide +kernel)
set_option maxRecDepth 20000 in
theorem gX8_sizeOf_X8_childMany : GoodIn wsX8_sizeOf (wsV RX8 68 RX8 yX8_childMany wsX8_childMany) := goodIn_app (goodIn_of _ (by decide +kernel)) ggX8_sizeOf_X8_childMany
set_option maxRecDepth 20000 in
theorem ggX8_sizeOf_X8_isUnder : GoodIn wsX8_sizeOf wsX8_isUnder := goodIn_r _ [10, 1, 11, 12, 13, 14, 15, 16, 17, 18, 19, 20, 21, 22, 23, 24, 25, 26, 27, 28] (by decide +kernel) (by decide +kernel)
set_option maxRecDepth 20000 in
theorem gX8_sizeOf_X8_isUnder : GoodIn wsX8_sizeOf (wsV RX8 71 RX8 yX8_isUnder wsX8_isUnder) := goodIn_app (goodIn_of _ (by decide +kernel)) ggX8_sizeOf_X8_isUnder
theorem dX8_sizeOf_0 : decode cX8_sizeOf 0 = .ok (.iconst 0, 1) := by decide +kernel
theorem dX8_sizeOf_1 : decode cX8_sizeOf 1 = .ok (.istore_n 2, 1) := by decide +kernel
theorem dX8_sizeOf_2 : decode cX8_sizeOf 2 = .ok (.iconst 0, 1) := by decide +kernel
theorem dX8_sizeOf_3 : decode cX8_sizeOf 3 = .ok (.istore_n 3, 1) := by decide +kernel
theorem dX8_sizeOf_4 : decode cX8_sizeOf 4 = .ok (.iload_n 3, 1) := by decide +kernel
theorem dX8_sizeOf_5 : decode cX8_sizeOf 5 = .ok (.aload_n 0, 1) := by decide +kernel
theorem dX8_sizeOf_6 : decode cX8_sizeOf 6 = .ok (.getfield 7, 3) := by decide +kernel
theorem dX8_sizeOf_9 : decode cX8_sizeOf 9 = .ok (.iconst 0, 1) := by decide +kernel
theorem dX8_sizeOf_10 : decode cX8_sizeOf 10 = .ok (.iaload, 1) := by decide +kernel
theorem dX8_sizeOf_11 : decode cX8_sizeOf 11 = .ok (.if_icmp .ge 41, 3) := by decide +kernel
theorem dX8_sizeOf_14 : decode cX8_sizeOf 14 = .ok (.iload_n 2, 1) := by decide +kernel
theorem dX8_sizeOf_15 : decode cX8_sizeOf 15 = .ok (.aload_n 0, 1) := by decide +kernel
theorem dX8_sizeOf_16 : decode cX8_sizeOf 16 = .ok (.iload_n 3, 1) := by decide +kernel
theorem dX8_sizeOf_17 : decode cX8_sizeOf 17 = .ok (.invokevirtual 68, 3) := by decide +kernel
theorem dX8_sizeOf_20 : decode cX8_sizeOf 20 = .ok (.ifCond .ne 23, 3) := by decide +kernel
theorem dX8_sizeOf_23 : decode cX8_sizeOf 23 = .ok (.aload_n 0, 1) := by decide +kernel
theorem dX8_sizeOf_24 : decode cX8_sizeOf 24 = .ok (.iload_n 3, 1) := by decide +kernel
theorem dX8_sizeOf_25 : decode cX8_sizeOf 25 = .ok (.iload_n 1, 1) := by decide +kernel
theorem dX8_sizeOf_26 : decode cX8_sizeOf 26 = .ok (.invokevirtual 71, 3) := by decide +kernel
theorem dX8_sizeOf_29 : decode cX8_sizeOf 29 = .ok (.ifCond .eq 14, 3) := by decide +kernel
theorem dX8_sizeOf_32 : decode cX8_sizeOf 32 = .ok (.aload_n 0, 1) := by decide +kernel
theorem dX8_sizeOf_33 : decode cX8_sizeOf 33 = .ok (.getfield 7, 3) := by decide +kernel
theorem dX8_sizeOf_36 : decode cX8_sizeOf 36 = .ok (.iconst 5, 1) := by decide +kernel
theorem dX8_sizeOf_37 : decode cX8_sizeOf 37 = .ok (.iload_n 3, 1) := by decide +kernel
theorem dX8_sizeOf_38 : decode cX8_sizeOf 38 = .ok (.iadd, 1) := by decide +kernel
theorem dX8_sizeOf_39 : decode cX8_sizeOf 39 = .ok (.iaload, 1) := by decide +kernel
theorem dX8_sizeOf_40 : decode cX8_sizeOf 40 = .ok (.goto 4, 3) := by decide +kernel
theorem dX8_sizeOf_43 : decode cX8_sizeOf 43 = .ok (.iconst 0, 1) := by decide +kernel
theorem dX8_sizeOf_44 : decode cX8_sizeOf 44 = .ok (.iadd, 1) := by decide +kernel
theorem dX8_sizeOf_45 : decode cX8_sizeOf 45 = .ok (.istore_n 2, 1) := by decide +kernel
theorem dX8_sizeOf_46 : decode cX8_sizeOf 46 = .ok (.iinc 3 1, 3) := by decide +kernel
theorem dX8_sizeOf_49 : decode cX8_sizeOf 49 = .ok (.goto (-45), 3) := by decide +kernel
theorem dX8_sizeOf_52 : decode cX8_sizeOf 52 = .ok (.iload_n 2, 1) := by decide +kernel
theorem dX8_sizeOf_53 : decode cX8_sizeOf 53 = .ok (.ireturn, 1) := by decide +kernel
theorem dX8_isUnder_0 : decode cX8_isUnder 0 = .ok (.iload_n 1, 1) := by decide +kernel
theorem dX8_isUnder_1 : decode cX8_isUnder 1 = .ok (.istore_n 3, 1) := by decide +kernel
theorem dX8_isUnder_2 : decode cX8_isUnder 2 = .ok (.iload_n 3, 1) := by decide +kernel
theorem dX8_isUnder_3 : decode cX8_isUnder 3 = .ok (.iload_n 2, 1) := by decide +kernel
theorem dX8_isUnder_4 : decode cX8_isUnder 4 = .ok (.if_icmp .eq 21, 3) := by decide +kernel
theorem dX8_isUnder_7 : decode cX8_isUnder 7 = .ok (.iload_n 3, 1) := by decide +kernel
theorem dX8_isUnder_8 : decode cX8_isUnder 8 = .ok (.iconst (-1), 1) := by decide +kernel
theorem dX8_isUnder_9 : decode cX8_isUnder 9 = .ok (.if_icmp .eq 16, 3) := by decide +kernel
theorem dX8_isUnder_12 : decode cX8_isUnder 12 = .ok (.aload_n 0, 1) := by decide +kernel
theorem dX8_isUnder_13 : decode cX8_isUnder 13 = .ok (.getfield 7, 3) := by decide +kernel
theorem dX8_isUnder_16 : decode cX8_isUnder 16 = .ok (.bipush 29, 2) := by decide +kernel
theorem dX8_isUnder_18 : decode cX8_isUnder 18 = .ok (.iload_n 3, 1) := by decide +kernel
theorem dX8_isUnder_19 : decode cX8_isUnder 19 = .ok (.iadd, 1) := by decide +kernel
theorem dX8_isUnder_20 : decode cX8_isUnder 20 = .ok (.iaload, 1) := by decide +kernel
theorem dX8_isUnder_21 : decode cX8_isUnder 21 = .ok (.istore_n 3, 1) := by decide +kernel
theorem dX8_isUnder_22 : decode cX8_isUnder 22 = .ok (.goto (-20), 3) := by decide +kernel
theorem dX8_isUnder_25 : decode cX8_isUnder 25 = .ok (.iload_n 3, 1) := by decide +kernel
theorem dX8_isUnder_26 : decode cX8_isUnder 26 = .ok (.iload_n 2, 1) := by decide +kernel
theorem dX8_isUnder_27 : decode cX8_isUnder 27 = .ok (.if_icmp .ne 7, 3) := by decide +kernel
theorem dX8_isUnder_30 : decode cX8_isUnder 30 = .ok (.iconst 1, 1) := by decide +kernel
theorem dX8_isUnder_31 : decode cX8_isUnder 31 = .ok (.goto 4, 3) := by decide +kernel
theorem dX8_isUnder_34 : decode cX8_isUnder 34 = .ok (.iconst 0, 1) := by decide +kernel
theorem dX8_isUnder_35 : decode cX8_isUnder 35 = .ok (.ireturn, 1) := by decide +kernel
theorem dX8_depthOf_0 : decode cX8_depthOf 0 = .ok (.iconst 0, 1) := by decide +kernel
theorem dX8_depthOf_1 : decode cX8_depthOf 1 = .ok (.istore_n 2, 1) := by decide +kernel
theorem dX8_depthOf_2 : decode cX8_depthOf 2 = .ok (.iload_n 1, 1) := by decide +kernel
theorem dX8_depthOf_3 : decode cX8_depthOf 3 = .ok (.istore_n 3, 1) := by decide +kernel
theorem dX8_depthOf_4 : decode cX8_depthOf 4 = .ok (.iload_n 3, 1) := by decide +kernel
theorem dX8_depthOf_5 : decode cX8_depthOf 5 = .ok (.ifCond .eq 19, 3) := by decide +kernel
theorem dX8_depthOf_8 : decode cX8_depthOf 8 = .ok (.iinc 2 1, 3) := by decide +kernel
theorem dX8_depthOf_11 : decode cX8_depthOf 11 = .ok (.aload_n 0, 1) := by decide +kernel
theorem dX8_depthOf_12 : decode cX8_depthOf 12 = .ok (.getfield 7, 3) := by decide +kernel
theorem dX8_depthOf_15 : decode cX8_depthOf 15 = .ok (.bipush 29, 2) := by decide +kernel
theorem dX8_depthOf_17 : decode cX8_depthOf 17 = .ok (.iload_n 3, 1) := by decide +kernel
theorem dX8_depthOf_18 : decode cX8_depthOf 18 = .ok (.iadd, 1) := by decide +kernel
theorem dX8_depthOf_19 : decode cX8_depthOf 19 = .ok (.iaload, 1) := by decide +kernel
theorem dX8_depthOf_20 : decode cX8_depthOf 20 = .ok (.istore_n 3, 1) := by decide +kernel
theorem dX8_depthOf_21 : decode cX8_depthOf 21 = .ok (.goto (-17), 3) := by decide +kernel
theorem dX8_depthOf_24 : decode cX8_depthOf 24 = .ok (.iload_n 2, 1) := by decide +kernel
theorem dX8_depthOf_25 : decode cX8_depthOf 25 = .ok (.ireturn, 1) := by decide +kernel
set_option maxRecDepth 20000 in
theorem ggX8_addNode_X8_isNode : GoodIn wsX8_addNode wsX8_isNode := goodIn_r _ [6, 1, 7, 8, 5, 9, 21, 22, 23, 24, 25, 26, 27, 28, 29, 30, 31, 32, 33, 34, 35, 36, 37, 38] (by decide +kernel) (by decide +kernel)
set_option maxRecDepth 20000 in
theorem gX8_addNode_X8_isNode : GoodIn wsX8_addNode (wsV RX8 75 RX8 yX8_isNode wsX8_isNode) := goodIn_app (goodIn_of _ (by decide +kernel)) ggX8_addNode_X8_isNode
set_option maxRecDepth 20000 in
theorem ggX8_addNode_X8_within : GoodIn wsX8_addNode wsX8_within := goodIn_r _ [9] (by decide +kernel) (by decide +kernel)
set_option maxRecDepth 20000 in
theorem gX8_addNode_X8_within : GoodIn wsX8_addNode (va_wsS RX8 56 yX8_within wsX8_within) := goodIn_app (goodIn_of _ (by decide +kernel)) ggX8_addNode_X8_within
set_option maxRecDepth 20000 in
theorem ggX8_addNode_X8_fails : GoodIn wsX8_addNode wsX8_fails := goodIn_r _ [13, 14, 21, 22, 23, 24, 25, 26, 27, 28, 29, 30, 31, 32, 33, 34, 35, 36, 37, 38] (by decide +kernel) (by decide +kernel)
set_option maxRecDepth 20000 in
theorem gX8_addNode_X8_fails : GoodIn wsX8_addNode (wsV RX8 64 RX8 yX8_fails wsX8_fails) := goodIn_app (goodIn_of _ (by decide +kernel)) ggX8_addNode_X8_fails
set_option maxRecDepth 20000 in
theorem ggX8_addNode_X8_saves : GoodIn wsX8_addNode wsX8_saves := goodIn_r _ [18, 19, 20, 1, 21, 22, 23, 24, 25, 26, 27, 28, 29, 30, 31, 32, 33, 34, 35, 36, 37, 38] (by decide +kernel) (by decide +kernel)
set_option maxRecDepth 20000 in
theorem gX8_addNode_X8_saves : GoodIn wsX8_addNode (wsV RX8 79 RX8 yX8_saves wsX8_saves) := goodIn_app (goodIn_of _ (by decide +kernel)) ggX8_addNode_X8_saves
theorem dX8_addNode_0 : decode cX8_addNode 0 = .ok (.aload_n 0, 1) := by decide +kernel
theorem dX8_addNode_1 : decode cX8_addNode 1 = .ok (.iload_n 1, 1) := by decide +kernel
theorem dX8_addNode_2 : decode cX8_addNode 2 = .ok (.invokevirtual 75, 3) := by decide +kernel
theorem dX8_addNode_5 : decode cX8_addNode 5 = .ok (.ifCond .eq 13, 3) := by decide +kernel
theorem dX8_addNode_8 : decode cX8_addNode 8 = .ok (.iload_n 2, 1) := by decide +kernel
theorem dX8_addNode_9 : decode cX8_addNode 9 = .ok (.iconst 1, 1) := by decide +kernel
theorem dX8_addNode_10 : decode cX8_addNode 10 = .ok (.bipush 99, 2) := by decide +kernel
theorem dX8_addNode_12 : decode cX8_addNode 12 = .ok (.invokestatic 56, 3) := by decide +kernel
theorem dX8_addNode_15 : decode cX8_addNode 15 = .ok (.ifCond .ne 10, 3) := by decide +kernel
theorem dX8_addNode_18 : decode cX8_addNode 18 = .ok (.aload_n 0, 1) := by decide +kernel
theorem dX8_addNode_19 : decode cX8_addNode 19 = .ok (.bipush (-2), 2) := by decide +kernel
theorem dX8_addNode_21 : decode cX8_addNode 21 = .ok (.invokevirtual 64, 3) := by decide +kernel
theorem dX8_addNode_24 : decode cX8_addNode 24 = .ok (.ireturn, 1) := by decide +kernel
theorem dX8_addNode_25 : decode cX8_addNode 25 = .ok (.aload_n 0, 1) := by decide +kernel
theorem dX8_addNode_26 : decode cX8_addNode 26 = .ok (.getfield 7, 3) := by decide +kernel
theorem dX8_addNode_29 : decode cX8_addNode 29 = .ok (.iconst 0, 1) := by decide +kernel
theorem dX8_addNode_30 : decode cX8_addNode 30 = .ok (.iaload, 1) := by decide +kernel
theorem dX8_addNode_31 : decode cX8_addNode 31 = .ok (.bipush 24, 2) := by decide +kernel
theorem dX8_addNode_33 : decode cX8_addNode 33 = .ok (.if_icmp .ne 10, 3) := by decide +kernel
theorem dX8_addNode_36 : decode cX8_addNode 36 = .ok (.aload_n 0, 1) := by decide +kernel
theorem dX8_addNode_37 : decode cX8_addNode 37 = .ok (.bipush (-4), 2) := by decide +kernel
theorem dX8_addNode_39 : decode cX8_addNode 39 = .ok (.invokevirtual 64, 3) := by decide +kernel
theorem dX8_addNode_42 : decode cX8_addNode 42 = .ok (.ireturn, 1) := by decide +kernel
theorem dX8_addNode_43 : decode cX8_addNode 43 = .ok (.aload_n 0, 1) := by decide +kernel
theorem dX8_addNode_44 : decode cX8_addNode 44 = .ok (.invokevirtual 79, 3) := by decide +kernel
theorem dX8_addNode_47 : decode cX8_addNode 47 = .ok (.aload_n 0, 1) := by decide +kernel
theorem dX8_addNode_48 : decode cX8_addNode 48 = .ok (.getfield 7, 3) := by decide +kernel
theorem dX8_addNode_51 : decode cX8_addNode 51 = .ok (.iconst 5, 1) := by decide +kernel
theorem dX8_addNode_52 : decode cX8_addNode 52 = .ok (.aload_n 0, 1) := by decide +kernel
theorem dX8_addNode_53 : decode cX8_addNode 53 = .ok (.getfield 7, 3) := by decide +kernel
theorem dX8_addNode_56 : decode cX8_addNode 56 = .ok (.iconst 0, 1) := by decide +kernel
theorem dX8_addNode_57 : decode cX8_addNode 57 = .ok (.iaload, 1) := by decide +kernel
theorem dX8_addNode_58 : decode cX8_addNode 58 = .ok (.iadd, 1) := by decide +kernel
theorem dX8_addNode_59 : decode cX8_addNode 59 = .ok (.iload_n 2, 1) := by decide +kernel
theorem dX8_addNode_60 : decode cX8_addNode 60 = .ok (.iastore, 1) := by decide +kernel
theorem dX8_addNode_61 : decode cX8_addNode 61 = .ok (.aload_n 0, 1) := by decide +kernel
theorem dX8_addNode_62 : decode cX8_addNode 62 = .ok (.getfield 7, 3) := by decide +kernel
theorem dX8_addNode_65 : decode cX8_addNode 65 = .ok (.bipush 29, 2) := by decide +kernel
theorem dX8_addNode_67 : decode cX8_addNode 67 = .ok (.aload_n 0, 1) := by decide +kernel
theorem dX8_addNode_68 : decode cX8_addNode 68 = .ok (.getfield 7, 3) := by decide +kernel
theorem dX8_addNode_71 : decode cX8_addNode 71 = .ok (.iconst 0, 1) := by decide +kernel
theorem dX8_addNode_72 : decode cX8_addNode 72 = .ok (.iaload, 1) := by decide +kernel
theorem dX8_addNode_73 : decode cX8_addNode 73 = .ok (.iadd, 1) := by decide +kernel
theorem dX8_addNode_74 : decode cX8_addNode 74 = .ok (.iload_n 1, 1) := by decide +kernel
theorem dX8_addNode_75 : decode cX8_addNode 75 = .ok (.iastore, 1) := by decide +kernel
theorem dX8_addNode_76 : decode cX8_addNode 76 = .ok (.aload_n 0, 1) := by decide +kernel
theorem dX8_addNode_77 : decode cX8_addNode 77 = .ok (.getfield 7, 3) := by decide +kernel
theorem dX8_addNode_80 : decode cX8_addNode 80 = .ok (.iconst 0, 1) := by decide +kernel
theorem dX8_addNode_81 : decode cX8_addNode 81 = .ok (.dup2, 1) := by decide +kernel
theorem dX8_addNode_82 : decode cX8_addNode 82 = .ok (.iaload, 1) := by decide +kernel
theorem dX8_addNode_83 : decode cX8_addNode 83 = .ok (.iconst 1, 1) := by decide +kernel
theorem dX8_addNode_84 : decode cX8_addNode 84 = .ok (.iadd, 1) := by decide +kernel
theorem dX8_addNode_85 : decode cX8_addNode 85 = .ok (.iastore, 1) := by decide +kernel
theorem dX8_addNode_86 : decode cX8_addNode 86 = .ok (.aload_n 0, 1) := by decide +kernel
theorem dX8_addNode_87 : decode cX8_addNode 87 = .ok (.getfield 7, 3) := by decide +kernel
theorem dX8_addNode_90 : decode cX8_addNode 90 = .ok (.iconst 0, 1) := by decide +kernel
theorem dX8_addNode_91 : decode cX8_addNode 91 = .ok (.iaload, 1) := by decide +kernel
theorem dX8_addNode_92 : decode cX8_addNode 92 = .ok (.iconst 1, 1) := by decide +kernel
theorem dX8_addNode_93 : decode cX8_addNode 93 = .ok (.isub, 1) := by decide +kernel
theorem dX8_addNode_94 : decode cX8_addNode 94 = .ok (.ireturn, 1) := by decide +kernel
set_option maxRecDepth 20000 in
theorem ggX8_changes_X8_saves : GoodIn wsX8_changes wsX8_saves := goodIn_r _ [6, 7, 8, 1, 9, 10, 11, 12, 13, 14, 15, 16, 17, 18, 19, 20, 21, 22, 23, 24, 25, 26] (by decide +kernel) (by decide +kernel)
set_option maxRecDepth 20000 in
theorem gX8_changes_X8_saves : GoodIn wsX8_changes (wsV RX8 79 RX8 yX8_saves wsX8_saves) := goodIn_app (goodIn_of _ (by decide +kernel)) ggX8_changes_X8_saves
theorem dX8_changes_0 : decode cX8_changes 0 = .ok (.aload_n 0, 1) := by decide +kernel
theorem dX8_changes_1 : decode cX8_changes 1 = .ok (.invokevirtual 79, 3) := by decide +kernel
theorem dX8_changes_4 : decode cX8_changes 4 = .ok (.aload_n 0, 1) := by decide +kernel
theorem dX8_changes_5 : decode cX8_changes 5 = .ok (.getfield 7, 3) := by decide +kernel
theorem dX8_changes_8 : decode cX8_changes 8 = .ok (.iload_n 1, 1) := by decide +kernel
theorem dX8_changes_9 : decode cX8_changes 9 = .ok (.iaload, 1) := by decide +kernel
theorem dX8_changes_10 : decode cX8_changes 10 = .ok (.istore_n 3, 1) := by decide +kernel
theorem dX8_changes_11 : decode cX8_changes 11 = .ok (.aload_n 0, 1) := by decide +kernel
theorem dX8_changes_12 : decode cX8_changes 12 = .ok (.getfield 7, 3) := by decide +kernel
theorem dX8_changes_15 : decode cX8_changes 15 = .ok (.iload_n 1, 1) := by decide +kernel
theorem dX8_changes_16 : decode cX8_changes 16 = .ok (.iload_n 2, 1) := by decide +kernel
theorem dX8_changes_17 : decode cX8_changes 17 = .ok (.iastore, 1) := by decide +kernel
theorem dX8_changes_18 : decode cX8_changes 18 = .ok (.iload_n 3, 1) := by decide +kernel
theorem dX8_changes_19 : decode cX8_changes 19 = .ok (.ireturn, 1) := by decide +kernel
set_option maxRecDepth 20000 in
theorem ggX8_setSize_X8_isNode : GoodIn wsX8_setSize wsX8_isNode := goodIn_r _ [5, 6, 7, 8, 4, 9, 25, 26, 27, 28, 29, 30, 31, 32, 33, 34, 35, 36, 37, 38, 39, 40, 41, 42] (by decide +kernel) (by decide +kernel)
set_option maxRecDepth 20000 in
theorem gX8_setSize_X8_isNode : GoodIn wsX8_setSize (wsV RX8 75 RX8 yX8_isNode wsX8_isNode) := goodIn_app (goodIn_of _ (by decide +kernel)) ggX8_setSize_X8_isNode
set_option maxRecDepth 20000 in
theorem ggX8_setSize_X8_within : GoodIn wsX8_setSize wsX8_within := goodIn_r _ [9] (by decide +kernel) (by decide +kernel)
set_option maxRecDepth 20000 in
theorem gX8_setSize_X8_within : GoodIn wsX8_setSize (va_wsS RX8 56 yX8_within wsX8_within) := goodIn_app (goodIn_of _ (by decide +kernel)) ggX8_setSize_X8_within
set_option maxRecDepth 20000 in
theorem ggX8_setSize_X8_changes : GoodIn wsX8_setSize wsX8_changes := goodIn_r _ [13, 6, 14, 15, 16, 4, 17, 18, 19, 25, 26, 27, 28, 29, 30, 31, 32, 33, 34, 35, 36, 37, 38, 39, 40, 41, 42] (by decide +kernel) (by decide +kernel)
set_option maxRecDepth 20000 in
theorem gX8_setSize_X8_changes : GoodIn wsX8_setSize (wsV RX8 82 RX8 yX8_changes wsX8_changes) := goodIn_app (goodIn_of _ (by decide +kernel)) ggX8_setSize_X8_changes
set_option maxRecDepth 20000 in
theorem ggX8_setSize_X8_fails : GoodIn wsX8_setSize wsX8_fails := goodIn_r _ [23, 24, 25, 26, 27, 28, 29, 30, 31, 32, 33, 34, 35, 36, 37, 38, 39, 40, 41, 42] (by decide +kernel) (by decide +kernel)
set_option maxRecDepth 20000 in
theorem gX8_setSize_X8_fails : GoodIn wsX8_setSize (wsV RX8 64 RX8 yX8_fails wsX8_fails) := goodIn_app (goodIn_of _ (by decide +kernel)) ggX8_setSize_X8_fails
theorem dX8_setSize_0 : decode cX8_setSize 0 = .ok (.aload_n 0, 1) := by decide +kernel
theorem dX8_setSize_1 : decode cX8_setSize 1 = .ok (.iload_n 1, 1) := by decide +kernel
theorem dX8_setSize_2 : decode cX8_setSize 2 = .ok (.invokevirtual 75, 3) := by decide +kernel
theorem dX8_setSize_5 : decode cX8_setSize 5 = .ok (.ifCond .eq 24, 3) := by decide +kernel
theorem dX8_setSize_8 : decode cX8_setSize 8 = .ok (.iload_n 2, 1) := by decide +kernel
theorem dX8_setSize_9 : decode cX8_setSize 9 = .ok (.iconst 1, 1) := by decide +kernel
theorem dX8_setSize_10 : decode cX8_setSize 10 = .ok (.bipush 99, 2) := by decide +kernel
theorem dX8_setSize_12 : decode cX8_setSize 12 = .ok (.invokestatic 56, 3) := by decide +kernel
theorem dX8_setSize_15 : decode cX8_setSize 15 = .ok (.ifCond .eq 14, 3) := by decide +kernel
theorem dX8_setSize_18 : decode cX8_setSize 18 = .ok (.aload_n 0, 1) := by decide +kernel
theorem dX8_setSize_19 : decode cX8_setSize 19 = .ok (.iconst 5, 1) := by decide +kernel
theorem dX8_setSize_20 : decode cX8_setSize 20 = .ok (.iload_n 1, 1) := by decide +kernel
theorem dX8_setSize_21 : decode cX8_setSize 21 = .ok (.iadd, 1) := by decide +kernel
theorem dX8_setSize_22 : decode cX8_setSize 22 = .ok (.iload_n 2, 1) := by decide +kernel
theorem dX8_setSize_23 : decode cX8_setSize 23 = .ok (.invokevirtual 82, 3) := by decide +kernel
theorem dX8_setSize_26 : decode cX8_setSize 26 = .ok (.goto 9, 3) := by decide +kernel
theorem dX8_setSize_29 : decode cX8_setSize 29 = .ok (.aload_n 0, 1) := by decide +kernel
theorem dX8_setSize_30 : decode cX8_setSize 30 = .ok (.bipush (-2), 2) := by decide +kernel
theorem dX8_setSize_32 : decode cX8_setSize 32 = .ok (.invokevirtual 64, 3) := by decide +kernel
theorem dX8_setSize_35 : decode cX8_setSize 35 = .ok (.ireturn, 1) := by decide +kernel
set_option maxRecDepth 20000 in
theorem ggX8_removeLeaf_X8_isNode : GoodIn wsX8_removeLeaf wsX8_isNode := goodIn_r _ [6, 1, 7, 8, 5, 9, 25, 26, 27, 28, 29, 30, 31, 32, 33, 34, 35, 36, 37, 38, 39, 40, 41, 42] (by decide +kernel) (by decide +kernel)
set_option maxRecDepth 20000 in
theorem gX8_removeLeaf_X8_isNode : GoodIn wsX8_removeLeaf (wsV RX8 75 RX8 yX8_isNode wsX8_isNode) := goodIn_app (goodIn_of _ (by decide +kernel)) ggX8_removeLeaf_X8_isNode
set_option maxRecDepth 20000 in
theorem ggX8_removeLeaf_X8_fails : GoodIn wsX8_removeLeaf wsX8_fails := goodIn_r _ [13, 14, 25, 26, 27, 28, 29, 30, 31, 32, 33, 34, 35, 36, 37, 38, 39, 40, 41, 42] (by decide +kernel) (by decide +kernel)
set_option maxRecDepth 20000 in
theorem gX8_removeLeaf_X8_fails : GoodIn wsX8_removeLeaf (wsV RX8 64 RX8 yX8_fails wsX8_fails) := goodIn_app (goodIn_of _ (by decide +kernel)) ggX8_removeLeaf_X8_fails
set_option maxRecDepth 20000 in
theorem ggX8_removeLeaf_X8_childMany : GoodIn wsX8_removeLeaf wsX8_childMany := goodIn_r _ [18, 1, 25, 26, 27, 28, 29, 30, 31, 32, 33, 34, 35, 36, 37, 38, 39, 40, 41, 42] (by decide +kernel) (by decide +kernel)
set_option maxRecDepth 20000 in
theorem gX8_removeLeaf_X8_childMany : GoodIn wsX8_removeLeaf (wsV RX8 68 RX8 yX8_childMany wsX8_childMany) := goodIn_app (goodIn_of _ (by decide +kernel)) ggX8_removeLeaf_X8_childMany
set_option maxRecDepth 20000 in
theorem ggX8_removeLeaf_X8_saves : GoodIn wsX8_removeLeaf wsX8_saves := goodIn_r _ [22, 23, 24, 1, 25, 26, 27, 28, 29, 30, 31, 32, 33, 34, 35, 36, 37, 38, 39, 40, 41, 42] (by decide +kernel) (by decide +kernel)
set_option maxRecDepth 20000 in
theorem gX8_removeLeaf_X8_saves : GoodIn wsX8_removeLeaf (wsV RX8 79 RX8 yX8_saves wsX8_saves) := goodIn_app (goodIn_of _ (by decide +kernel)) ggX8_removeLeaf_X8_saves
theorem dX8_removeLeaf_0 : decode cX8_removeLeaf 0 = .ok (.aload_n 0, 1) := by decide +kernel
theorem dX8_removeLeaf_1 : decode cX8_removeLeaf 1 = .ok (.iload_n 1, 1) := by decide +kernel
theorem dX8_removeLeaf_2 : decode cX8_removeLeaf 2 = .ok (.invokevirtual 75, 3) := by decide +kernel
theorem dX8_removeLeaf_5 : decode cX8_removeLeaf 5 = .ok (.ifCond .ne 10, 3) := by decide +kernel
theorem dX8_removeLeaf_8 : decode cX8_removeLeaf 8 = .ok (.aload_n 0, 1) := by decide +kernel
theorem dX8_removeLeaf_9 : decode cX8_removeLeaf 9 = .ok (.bipush (-2), 2) := by decide +kernel
theorem dX8_removeLeaf_11 : decode cX8_removeLeaf 11 = .ok (.invokevirtual 64, 3) := by decide +kernel
theorem dX8_removeLeaf_14 : decode cX8_removeLeaf 14 = .ok (.ireturn, 1) := by decide +kernel
theorem dX8_removeLeaf_15 : decode cX8_removeLeaf 15 = .ok (.iload_n 1, 1) := by decide +kernel
theorem dX8_removeLeaf_16 : decode cX8_removeLeaf 16 = .ok (.ifCond .eq 11, 3) := by decide +kernel
theorem dX8_removeLeaf_19 : decode cX8_removeLeaf 19 = .ok (.aload_n 0, 1) := by decide +kernel
theorem dX8_removeLeaf_20 : decode cX8_removeLeaf 20 = .ok (.iload_n 1, 1) := by decide +kernel
theorem dX8_removeLeaf_21 : decode cX8_removeLeaf 21 = .ok (.invokevirtual 68, 3) := by decide +kernel
theorem dX8_removeLeaf_24 : decode cX8_removeLeaf 24 = .ok (.ifCond .le 10, 3) := by decide +kernel
theorem dX8_removeLeaf_27 : decode cX8_removeLeaf 27 = .ok (.aload_n 0, 1) := by decide +kernel
theorem dX8_removeLeaf_28 : decode cX8_removeLeaf 28 = .ok (.bipush (-3), 2) := by decide +kernel
theorem dX8_removeLeaf_30 : decode cX8_removeLeaf 30 = .ok (.invokevirtual 64, 3) := by decide +kernel
theorem dX8_removeLeaf_33 : decode cX8_removeLeaf 33 = .ok (.ireturn, 1) := by decide +kernel
theorem dX8_removeLeaf_34 : decode cX8_removeLeaf 34 = .ok (.aload_n 0, 1) := by decide +kernel
theorem dX8_removeLeaf_35 : decode cX8_removeLeaf 35 = .ok (.invokevirtual 79, 3) := by decide +kernel
theorem dX8_removeLeaf_38 : decode cX8_removeLeaf 38 = .ok (.aload_n 0, 1) := by decide +kernel
theorem dX8_removeLeaf_39 : decode cX8_removeLeaf 39 = .ok (.getfield 7, 3) := by decide +kernel
theorem dX8_removeLeaf_42 : decode cX8_removeLeaf 42 = .ok (.iconst 0, 1) := by decide +kernel
theorem dX8_removeLeaf_43 : decode cX8_removeLeaf 43 = .ok (.dup2, 1) := by decide +kernel
theorem dX8_removeLeaf_44 : decode cX8_removeLeaf 44 = .ok (.iaload, 1) := by decide +kernel
theorem dX8_removeLeaf_45 : decode cX8_removeLeaf 45 = .ok (.iconst 1, 1) := by decide +kernel
theorem dX8_removeLeaf_46 : decode cX8_removeLeaf 46 = .ok (.isub, 1) := by decide +kernel
theorem dX8_removeLeaf_47 : decode cX8_removeLeaf 47 = .ok (.iastore, 1) := by decide +kernel
theorem dX8_removeLeaf_48 : decode cX8_removeLeaf 48 = .ok (.iload_n 1, 1) := by decide +kernel
theorem dX8_removeLeaf_49 : decode cX8_removeLeaf 49 = .ok (.istore_n 2, 1) := by decide +kernel
theorem dX8_removeLeaf_50 : decode cX8_removeLeaf 50 = .ok (.iload_n 2, 1) := by decide +kernel
theorem dX8_removeLeaf_51 : decode cX8_removeLeaf 51 = .ok (.aload_n 0, 1) := by decide +kernel
theorem dX8_removeLeaf_52 : decode cX8_removeLeaf 52 = .ok (.getfield 7, 3) := by decide +kernel
theorem dX8_removeLeaf_55 : decode cX8_removeLeaf 55 = .ok (.iconst 0, 1) := by decide +kernel
theorem dX8_removeLeaf_56 : decode cX8_removeLeaf 56 = .ok (.iaload, 1) := by decide +kernel
theorem dX8_removeLeaf_57 : decode cX8_removeLeaf 57 = .ok (.if_icmp .ge 47, 3) := by decide +kernel
theorem dX8_removeLeaf_60 : decode cX8_removeLeaf 60 = .ok (.aload_n 0, 1) := by decide +kernel
theorem dX8_removeLeaf_61 : decode cX8_removeLeaf 61 = .ok (.getfield 7, 3) := by decide +kernel
theorem dX8_removeLeaf_64 : decode cX8_removeLeaf 64 = .ok (.iconst 5, 1) := by decide +kernel
theorem dX8_removeLeaf_65 : decode cX8_removeLeaf 65 = .ok (.iload_n 2, 1) := by decide +kernel
theorem dX8_removeLeaf_66 : decode cX8_removeLeaf 66 = .ok (.iadd, 1) := by decide +kernel
theorem dX8_removeLeaf_67 : decode cX8_removeLeaf 67 = .ok (.aload_n 0, 1) := by decide +kernel
theorem dX8_removeLeaf_68 : decode cX8_removeLeaf 68 = .ok (.getfield 7, 3) := by decide +kernel
theorem dX8_removeLeaf_71 : decode cX8_removeLeaf 71 = .ok (.iconst 5, 1) := by decide +kernel
theorem dX8_removeLeaf_72 : decode cX8_removeLeaf 72 = .ok (.iload_n 2, 1) := by decide +kernel
theorem dX8_removeLeaf_73 : decode cX8_removeLeaf 73 = .ok (.iadd, 1) := by decide +kernel
theorem dX8_removeLeaf_74 : decode cX8_removeLeaf 74 = .ok (.iconst 1, 1) := by decide +kernel
theorem dX8_removeLeaf_75 : decode cX8_removeLeaf 75 = .ok (.iadd, 1) := by decide +kernel
theorem dX8_removeLeaf_76 : decode cX8_removeLeaf 76 = .ok (.iaload, 1) := by decide +kernel
theorem dX8_removeLeaf_77 : decode cX8_removeLeaf 77 = .ok (.iastore, 1) := by decide +kernel
theorem dX8_removeLeaf_78 : decode cX8_removeLeaf 78 = .ok (.aload_n 0, 1) := by decide +kernel
theorem dX8_removeLeaf_79 : decode cX8_removeLeaf 79 = .ok (.getfield 7, 3) := by decide +kernel
theorem dX8_removeLeaf_82 : decode cX8_removeLeaf 82 = .ok (.bipush 29, 2) := by decide +kernel
theorem dX8_removeLeaf_84 : decode cX8_removeLeaf 84 = .ok (.iload_n 2, 1) := by decide +kernel
theorem dX8_removeLeaf_85 : decode cX8_removeLeaf 85 = .ok (.iadd, 1) := by decide +kernel
theorem dX8_removeLeaf_86 : decode cX8_removeLeaf 86 = .ok (.aload_n 0, 1) := by decide +kernel
theorem dX8_removeLeaf_87 : decode cX8_removeLeaf 87 = .ok (.getfield 7, 3) := by decide +kernel
theorem dX8_removeLeaf_90 : decode cX8_removeLeaf 90 = .ok (.bipush 29, 2) := by decide +kernel
theorem dX8_removeLeaf_92 : decode cX8_removeLeaf 92 = .ok (.iload_n 2, 1) := by decide +kernel
theorem dX8_removeLeaf_93 : decode cX8_removeLeaf 93 = .ok (.iadd, 1) := by decide +kernel
theorem dX8_removeLeaf_94 : decode cX8_removeLeaf 94 = .ok (.iconst 1, 1) := by decide +kernel
theorem dX8_removeLeaf_95 : decode cX8_removeLeaf 95 = .ok (.iadd, 1) := by decide +kernel
theorem dX8_removeLeaf_96 : decode cX8_removeLeaf 96 = .ok (.iaload, 1) := by decide +kernel
theorem dX8_removeLeaf_97 : decode cX8_removeLeaf 97 = .ok (.iastore, 1) := by decide +kernel
theorem dX8_removeLeaf_98 : decode cX8_removeLeaf 98 = .ok (.iinc 2 1, 3) := by decide +kernel
theorem dX8_removeLeaf_101 : decode cX8_removeLeaf 101 = .ok (.goto (-51), 3) := by decide +kernel
theorem dX8_removeLeaf_104 : decode cX8_removeLeaf 104 = .ok (.iconst 0, 1) := by decide +kernel
theorem dX8_removeLeaf_105 : decode cX8_removeLeaf 105 = .ok (.istore_n 2, 1) := by decide +kernel
theorem dX8_removeLeaf_106 : decode cX8_removeLeaf 106 = .ok (.iload_n 2, 1) := by decide +kernel
theorem dX8_removeLeaf_107 : decode cX8_removeLeaf 107 = .ok (.aload_n 0, 1) := by decide +kernel
theorem dX8_removeLeaf_108 : decode cX8_removeLeaf 108 = .ok (.getfield 7, 3) := by decide +kernel
theorem dX8_removeLeaf_111 : decode cX8_removeLeaf 111 = .ok (.iconst 0, 1) := by decide +kernel
theorem dX8_removeLeaf_112 : decode cX8_removeLeaf 112 = .ok (.iaload, 1) := by decide +kernel
theorem dX8_removeLeaf_113 : decode cX8_removeLeaf 113 = .ok (.if_icmp .ge 39, 3) := by decide +kernel
theorem dX8_removeLeaf_116 : decode cX8_removeLeaf 116 = .ok (.aload_n 0, 1) := by decide +kernel
theorem dX8_removeLeaf_117 : decode cX8_removeLeaf 117 = .ok (.getfield 7, 3) := by decide +kernel
theorem dX8_removeLeaf_120 : decode cX8_removeLeaf 120 = .ok (.bipush 29, 2) := by decide +kernel
theorem dX8_removeLeaf_122 : decode cX8_removeLeaf 122 = .ok (.iload_n 2, 1) := by decide +kernel
theorem dX8_removeLeaf_123 : decode cX8_removeLeaf 123 = .ok (.iadd, 1) := by decide +kernel
theorem dX8_removeLeaf_124 : decode cX8_removeLeaf 124 = .ok (.dup2, 1) := by decide +kernel
theorem dX8_removeLeaf_125 : decode cX8_removeLeaf 125 = .ok (.iaload, 1) := by decide +kernel
theorem dX8_removeLeaf_126 : decode cX8_removeLeaf 126 = .ok (.aload_n 0, 1) := by decide +kernel
theorem dX8_removeLeaf_127 : decode cX8_removeLeaf 127 = .ok (.getfield 7, 3) := by decide +kernel
theorem dX8_removeLeaf_130 : decode cX8_removeLeaf 130 = .ok (.bipush 29, 2) := by decide +kernel
theorem dX8_removeLeaf_132 : decode cX8_removeLeaf 132 = .ok (.iload_n 2, 1) := by decide +kernel
theorem dX8_removeLeaf_133 : decode cX8_removeLeaf 133 = .ok (.iadd, 1) := by decide +kernel
theorem dX8_removeLeaf_134 : decode cX8_removeLeaf 134 = .ok (.iaload, 1) := by decide +kernel
theorem dX8_removeLeaf_135 : decode cX8_removeLeaf 135 = .ok (.iload_n 1, 1) := by decide +kernel
theorem dX8_removeLeaf_136 : decode cX8_removeLeaf 136 = .ok (.if_icmp .le 7, 3) := by decide +kernel
theorem dX8_removeLeaf_139 : decode cX8_removeLeaf 139 = .ok (.iconst 1, 1) := by decide +kernel
theorem dX8_removeLeaf_140 : decode cX8_removeLeaf 140 = .ok (.goto 4, 3) := by decide +kernel
theorem dX8_removeLeaf_143 : decode cX8_removeLeaf 143 = .ok (.iconst 0, 1) := by decide +kernel
theorem dX8_removeLeaf_144 : decode cX8_removeLeaf 144 = .ok (.isub, 1) := by decide +kernel
theorem dX8_removeLeaf_145 : decode cX8_removeLeaf 145 = .ok (.iastore, 1) := by decide +kernel
theorem dX8_removeLeaf_146 : decode cX8_removeLeaf 146 = .ok (.iinc 2 1, 3) := by decide +kernel
theorem dX8_removeLeaf_149 : decode cX8_removeLeaf 149 = .ok (.goto (-43), 3) := by decide +kernel
theorem dX8_removeLeaf_152 : decode cX8_removeLeaf 152 = .ok (.aload_n 0, 1) := by decide +kernel
theorem dX8_removeLeaf_153 : decode cX8_removeLeaf 153 = .ok (.getfield 7, 3) := by decide +kernel
theorem dX8_removeLeaf_156 : decode cX8_removeLeaf 156 = .ok (.iconst 0, 1) := by decide +kernel
theorem dX8_removeLeaf_157 : decode cX8_removeLeaf 157 = .ok (.iaload, 1) := by decide +kernel
theorem dX8_removeLeaf_158 : decode cX8_removeLeaf 158 = .ok (.ireturn, 1) := by decide +kernel
set_option maxRecDepth 20000 in
theorem ggX8_setParent_X8_isNode : GoodIn wsX8_setParent wsX8_isNode := goodIn_r _ [5, 6, 7, 8, 4, 9, 29, 30, 31, 32, 33, 34, 35, 36, 37, 38, 39, 40, 41, 42, 43, 44, 45, 46] (by decide +kernel) (by decide +kernel)
set_option maxRecDepth 20000 in
theorem gX8_setParent_X8_isNode : GoodIn wsX8_setParent (wsV RX8 75 RX8 yX8_isNode wsX8_isNode) := goodIn_app (goodIn_of _ (by decide +kernel)) ggX8_setParent_X8_isNode
set_option maxRecDepth 20000 in
theorem ggX8_setParent_X8_fails : GoodIn wsX8_setParent wsX8_fails := goodIn_r _ [13, 14, 29, 30, 31, 32, 33, 34, 35, 36, 37, 38, 39, 40, 41, 42, 43, 44, 45, 46] (by decide +kernel) (by decide +kernel)
set_option maxRecDepth 20000 in
theorem gX8_setParent_X8_fails : GoodIn wsX8_setParent (wsV RX8 64 RX8 yX8_fails wsX8_fails) := goodIn_app (goodIn_of _ (by decide +kernel)) ggX8_setParent_X8_fails
set_option maxRecDepth 20000 in
theorem ggX8_setParent_X8_isUnder : GoodIn wsX8_setParent wsX8_isUnder := goodIn_r _ [18, 6, 29, 30, 31, 32, 33, 34, 35, 36, 37, 38, 39, 40, 41, 42, 43, 44, 45, 46] (by decide +kernel) (by decide +kernel)
set_option maxRecDepth 20000 in
theorem gX8_setParent_X8_isUnder : GoodIn wsX8_setParent (wsV RX8 71 RX8 yX8_isUnder wsX8_isUnder) := goodIn_app (goodIn_of _ (by decide +kernel)) ggX8_setParent_X8_isUnder
set_option maxRecDepth 20000 in
theorem ggX8_setParent_X8_changes : GoodIn wsX8_setParent wsX8_changes := goodIn_r _ [22, 6, 23, 24, 25, 4, 26, 27, 28, 29, 30, 31, 32, 33, 34, 35, 36, 37, 38, 39, 40, 41, 42, 43, 44, 45, 46] (by decide +kernel) (by decide +kernel)
set_option maxRecDepth 20000 in
theorem gX8_setParent_X8_changes : GoodIn wsX8_setParent (wsV RX8 82 RX8 yX8_changes wsX8_changes) := goodIn_app (goodIn_of _ (by decide +kernel)) ggX8_setParent_X8_changes
theorem dX8_setParent_0 : decode cX8_setParent 0 = .ok (.aload_n 0, 1) := by decide +kernel
theorem dX8_setParent_1 : decode cX8_setParent 1 = .ok (.iload_n 1, 1) := by decide +kernel
theorem dX8_setParent_2 : decode cX8_setParent 2 = .ok (.invokevirtual 75, 3) := by decide +kernel
theorem dX8_setParent_5 : decode cX8_setParent 5 = .ok (.ifCond .eq 11, 3) := by decide +kernel
theorem dX8_setParent_8 : decode cX8_setParent 8 = .ok (.aload_n 0, 1) := by decide +kernel
theorem dX8_setParent_9 : decode cX8_setParent 9 = .ok (.iload_n 2, 1) := by decide +kernel
theorem dX8_setParent_10 : decode cX8_setParent 10 = .ok (.invokevirtual 75, 3) := by decide +kernel
theorem dX8_setParent_13 : decode cX8_setParent 13 = .ok (.ifCond .ne 10, 3) := by decide +kernel
theorem dX8_setParent_16 : decode cX8_setParent 16 = .ok (.aload_n 0, 1) := by decide +kernel
theorem dX8_setParent_17 : decode cX8_setParent 17 = .ok (.bipush (-2), 2) := by decide +kernel
theorem dX8_setParent_19 : decode cX8_setParent 19 = .ok (.invokevirtual 64, 3) := by decide +kernel
theorem dX8_setParent_22 : decode cX8_setParent 22 = .ok (.ireturn, 1) := by decide +kernel
theorem dX8_setParent_23 : decode cX8_setParent 23 = .ok (.iload_n 1, 1) := by decide +kernel
theorem dX8_setParent_24 : decode cX8_setParent 24 = .ok (.ifCond .eq 12, 3) := by decide +kernel
theorem dX8_setParent_27 : decode cX8_setParent 27 = .ok (.aload_n 0, 1) := by decide +kernel
theorem dX8_setParent_28 : decode cX8_setParent 28 = .ok (.iload_n 2, 1) := by decide +kernel
theorem dX8_setParent_29 : decode cX8_setParent 29 = .ok (.iload_n 1, 1) := by decide +kernel
theorem dX8_setParent_30 : decode cX8_setParent 30 = .ok (.invokevirtual 71, 3) := by decide +kernel
theorem dX8_setParent_33 : decode cX8_setParent 33 = .ok (.ifCond .eq 10, 3) := by decide +kernel
theorem dX8_setParent_36 : decode cX8_setParent 36 = .ok (.aload_n 0, 1) := by decide +kernel
theorem dX8_setParent_37 : decode cX8_setParent 37 = .ok (.bipush (-3), 2) := by decide +kernel
theorem dX8_setParent_39 : decode cX8_setParent 39 = .ok (.invokevirtual 64, 3) := by decide +kernel
theorem dX8_setParent_42 : decode cX8_setParent 42 = .ok (.ireturn, 1) := by decide +kernel
theorem dX8_setParent_43 : decode cX8_setParent 43 = .ok (.aload_n 0, 1) := by decide +kernel
theorem dX8_setParent_44 : decode cX8_setParent 44 = .ok (.bipush 29, 2) := by decide +kernel
theorem dX8_setParent_46 : decode cX8_setParent 46 = .ok (.iload_n 1, 1) := by decide +kernel
theorem dX8_setParent_47 : decode cX8_setParent 47 = .ok (.iadd, 1) := by decide +kernel
theorem dX8_setParent_48 : decode cX8_setParent 48 = .ok (.iload_n 2, 1) := by decide +kernel
theorem dX8_setParent_49 : decode cX8_setParent 49 = .ok (.invokevirtual 82, 3) := by decide +kernel
theorem dX8_setParent_52 : decode cX8_setParent 52 = .ok (.ireturn, 1) := by decide +kernel
set_option maxRecDepth 20000 in
theorem ggX8_setCanvas_X8_within : GoodIn wsX8_setCanvas wsX8_within := goodIn_r _ [5] (by decide +kernel) (by decide +kernel)
set_option maxRecDepth 20000 in
theorem gX8_setCanvas_X8_within : GoodIn wsX8_setCanvas (va_wsS RX8 56 yX8_within wsX8_within) := goodIn_app (goodIn_of _ (by decide +kernel)) ggX8_setCanvas_X8_within
set_option maxRecDepth 20000 in
theorem ggX8_setCanvas_X8_fails : GoodIn wsX8_setCanvas wsX8_fails := goodIn_r _ [9, 10, 17, 18, 19, 20, 21, 22, 23, 24, 25, 26, 27, 28, 29, 30, 31, 32, 33, 34] (by decide +kernel) (by decide +kernel)
set_option maxRecDepth 20000 in
theorem gX8_setCanvas_X8_fails : GoodIn wsX8_setCanvas (wsV RX8 64 RX8 yX8_fails wsX8_fails) := goodIn_app (goodIn_of _ (by decide +kernel)) ggX8_setCanvas_X8_fails
set_option maxRecDepth 20000 in
theorem ggX8_setCanvas_X8_saves : GoodIn wsX8_setCanvas wsX8_saves := goodIn_r _ [14, 15, 16, 1, 17, 18, 19, 20, 21, 22, 23, 24, 25, 26, 27, 28, 29, 30, 31, 32, 33, 34] (by decide +kernel) (by decide +kernel)
set_option maxRecDepth 20000 in
theorem gX8_setCanvas_X8_saves : GoodIn wsX8_setCanvas (wsV RX8 79 RX8 yX8_saves wsX8_saves) := goodIn_app (goodIn_of _ (by decide +kernel)) ggX8_setCanvas_X8_saves
theorem dX8_setCanvas_0 : decode cX8_setCanvas 0 = .ok (.iload_n 1, 1) := by decide +kernel
theorem dX8_setCanvas_1 : decode cX8_setCanvas 1 = .ok (.iconst 1, 1) := by decide +kernel
theorem dX8_setCanvas_2 : decode cX8_setCanvas 2 = .ok (.sipush 200, 3) := by decide +kernel
theorem dX8_setCanvas_5 : decode cX8_setCanvas 5 = .ok (.invokestatic 56, 3) := by decide +kernel
theorem dX8_setCanvas_8 : decode cX8_setCanvas 8 = .ok (.ifCond .eq 14, 3) := by decide +kernel
theorem dX8_setCanvas_11 : decode cX8_setCanvas 11 = .ok (.iload_n 2, 1) := by decide +kernel
theorem dX8_setCanvas_12 : decode cX8_setCanvas 12 = .ok (.iconst 1, 1) := by decide +kernel
theorem dX8_setCanvas_13 : decode cX8_setCanvas 13 = .ok (.sipush 200, 3) := by decide +kernel
theorem dX8_setCanvas_16 : decode cX8_setCanvas 16 = .ok (.invokestatic 56, 3) := by decide +kernel
theorem dX8_setCanvas_19 : decode cX8_setCanvas 19 = .ok (.ifCond .ne 10, 3) := by decide +kernel
theorem dX8_setCanvas_22 : decode cX8_setCanvas 22 = .ok (.aload_n 0, 1) := by decide +kernel
theorem dX8_setCanvas_23 : decode cX8_setCanvas 23 = .ok (.bipush (-2), 2) := by decide +kernel
theorem dX8_setCanvas_25 : decode cX8_setCanvas 25 = .ok (.invokevirtual 64, 3) := by decide +kernel
theorem dX8_setCanvas_28 : decode cX8_setCanvas 28 = .ok (.ireturn, 1) := by decide +kernel
theorem dX8_setCanvas_29 : decode cX8_setCanvas 29 = .ok (.aload_n 0, 1) := by decide +kernel
theorem dX8_setCanvas_30 : decode cX8_setCanvas 30 = .ok (.invokevirtual 79, 3) := by decide +kernel
theorem dX8_setCanvas_33 : decode cX8_setCanvas 33 = .ok (.sipush 1000, 3) := by decide +kernel
theorem dX8_setCanvas_36 : decode cX8_setCanvas 36 = .ok (.aload_n 0, 1) := by decide +kernel
theorem dX8_setCanvas_37 : decode cX8_setCanvas 37 = .ok (.getfield 7, 3) := by decide +kernel
theorem dX8_setCanvas_40 : decode cX8_setCanvas 40 = .ok (.iconst 1, 1) := by decide +kernel
theorem dX8_setCanvas_41 : decode cX8_setCanvas 41 = .ok (.iaload, 1) := by decide +kernel
theorem dX8_setCanvas_42 : decode cX8_setCanvas 42 = .ok (.imul, 1) := by decide +kernel
theorem dX8_setCanvas_43 : decode cX8_setCanvas 43 = .ok (.aload_n 0, 1) := by decide +kernel
theorem dX8_setCanvas_44 : decode cX8_setCanvas 44 = .ok (.getfield 7, 3) := by decide +kernel
theorem dX8_setCanvas_47 : decode cX8_setCanvas 47 = .ok (.iconst 2, 1) := by decide +kernel
theorem dX8_setCanvas_48 : decode cX8_setCanvas 48 = .ok (.iaload, 1) := by decide +kernel
theorem dX8_setCanvas_49 : decode cX8_setCanvas 49 = .ok (.iadd, 1) := by decide +kernel
theorem dX8_setCanvas_50 : decode cX8_setCanvas 50 = .ok (.istore_n 3, 1) := by decide +kernel
theorem dX8_setCanvas_51 : decode cX8_setCanvas 51 = .ok (.aload_n 0, 1) := by decide +kernel
theorem dX8_setCanvas_52 : decode cX8_setCanvas 52 = .ok (.getfield 7, 3) := by decide +kernel
theorem dX8_setCanvas_55 : decode cX8_setCanvas 55 = .ok (.iconst 1, 1) := by decide +kernel
theorem dX8_setCanvas_56 : decode cX8_setCanvas 56 = .ok (.iload_n 1, 1) := by decide +kernel
theorem dX8_setCanvas_57 : decode cX8_setCanvas 57 = .ok (.iastore, 1) := by decide +kernel
theorem dX8_setCanvas_58 : decode cX8_setCanvas 58 = .ok (.aload_n 0, 1) := by decide +kernel
theorem dX8_setCanvas_59 : decode cX8_setCanvas 59 = .ok (.getfield 7, 3) := by decide +kernel
theorem dX8_setCanvas_62 : decode cX8_setCanvas 62 = .ok (.iconst 2, 1) := by decide +kernel
theorem dX8_setCanvas_63 : decode cX8_setCanvas 63 = .ok (.iload_n 2, 1) := by decide +kernel
theorem dX8_setCanvas_64 : decode cX8_setCanvas 64 = .ok (.iastore, 1) := by decide +kernel
theorem dX8_setCanvas_65 : decode cX8_setCanvas 65 = .ok (.iload_n 3, 1) := by decide +kernel
theorem dX8_setCanvas_66 : decode cX8_setCanvas 66 = .ok (.ireturn, 1) := by decide +kernel
set_option maxRecDepth 20000 in
theorem ggX8_setPadding_X8_within : GoodIn wsX8_setPadding wsX8_within := goodIn_r _ [4] (by decide +kernel) (by decide +kernel)
set_option maxRecDepth 20000 in
theorem gX8_setPadding_X8_within : GoodIn wsX8_setPadding (va_wsS RX8 56 yX8_within wsX8_within) := goodIn_app (goodIn_of _ (by decide +kernel)) ggX8_setPadding_X8_within
set_option maxRecDepth 20000 in
theorem ggX8_setPadding_X8_changes : GoodIn wsX8_setPadding wsX8_changes := goodIn_r _ [8, 9, 10, 11, 12, 3, 13, 14, 15, 21, 22, 23, 24, 25, 26, 27, 28, 29, 30, 31, 32, 33, 34, 35, 36, 37, 38] (by decide +kernel) (by decide +kernel)
set_option maxRecDepth 20000 in
theorem gX8_setPadding_X8_changes : GoodIn wsX8_setPadding (wsV RX8 82 RX8 yX8_changes wsX8_changes) := goodIn_app (goodIn_of _ (by decide +kernel)) ggX8_setPadding_X8_changes
set_option maxRecDepth 20000 in
theorem ggX8_setPadding_X8_fails : GoodIn wsX8_setPadding wsX8_fails := goodIn_r _ [19, 20, 21, 22, 23, 24, 25, 26, 27, 28, 29, 30, 31, 32, 33, 34, 35, 36, 37, 38] (by decide +kernel) (by decide +kernel)
set_option maxRecDepth 20000 in
theorem gX8_setPadding_X8_fails : GoodIn wsX8_setPadding (wsV RX8 64 RX8 yX8_fails wsX8_fails) := goodIn_app (goodIn_of _ (by decide +kernel)) ggX8_setPadding_X8_fails
theorem dX8_setPadding_0 : decode cX8_setPadding 0 = .ok (.iload_n 1, 1) := by decide +kernel
theorem dX8_setPadding_1 : decode cX8_setPadding 1 = .ok (.iconst 0, 1) := by decide +kernel
theorem dX8_setPadding_2 : decode cX8_setPadding 2 = .ok (.iconst 3, 1) := by decide +kernel
theorem dX8_setPadding_3 : decode cX8_setPadding 3 = .ok (.invokestatic 56, 3) := by decide +kernel
theorem dX8_setPadding_6 : decode cX8_setPadding 6 = .ok (.ifCond .eq 12, 3) := by decide +kernel
theorem dX8_setPadding_9 : decode cX8_setPadding 9 = .ok (.aload_n 0, 1) := by decide +kernel
theorem dX8_setPadding_10 : decode cX8_setPadding 10 = .ok (.iconst 3, 1) := by decide +kernel
theorem dX8_setPadding_11 : decode cX8_setPadding 11 = .ok (.iload_n 1, 1) := by decide +kernel
theorem dX8_setPadding_12 : decode cX8_setPadding 12 = .ok (.invokevirtual 82, 3) := by decide +kernel
theorem dX8_setPadding_15 : decode cX8_setPadding 15 = .ok (.goto 9, 3) := by decide +kernel
theorem dX8_setPadding_18 : decode cX8_setPadding 18 = .ok (.aload_n 0, 1) := by decide +kernel
theorem dX8_setPadding_19 : decode cX8_setPadding 19 = .ok (.bipush (-2), 2) := by decide +kernel
theorem dX8_setPadding_21 : decode cX8_setPadding 21 = .ok (.invokevirtual 64, 3) := by decide +kernel
theorem dX8_setPadding_24 : decode cX8_setPadding 24 = .ok (.ireturn, 1) := by decide +kernel
set_option maxRecDepth 20000 in
theorem ggX8_setMode_X8_within : GoodIn wsX8_setMode wsX8_within := goodIn_r _ [4] (by decide +kernel) (by decide +kernel)
set_option maxRecDepth 20000 in
theorem gX8_setMode_X8_within : GoodIn wsX8_setMode (va_wsS RX8 56 yX8_within wsX8_within) := goodIn_app (goodIn_of _ (by decide +kernel)) ggX8_setMode_X8_within
set_option maxRecDepth 20000 in
theorem ggX8_setMode_X8_changes : GoodIn wsX8_setMode wsX8_changes := goodIn_r _ [8, 9, 10, 11, 12, 3, 13, 14, 15, 21, 22, 23, 24, 25, 26, 27, 28, 29, 30, 31, 32, 33, 34, 35, 36, 37, 38] (by decide +kernel) (by decide +kernel)
set_option maxRecDepth 20000 in
theorem gX8_setMode_X8_changes : GoodIn wsX8_setMode (wsV RX8 82 RX8 yX8_changes wsX8_changes) := goodIn_app (goodIn_of _ (by decide +kernel)) ggX8_setMode_X8_changes
set_option maxRecDepth 20000 in
theorem ggX8_setMode_X8_fails : GoodIn wsX8_setMode wsX8_fails := goodIn_r _ [19, 20, 21, 22, 23, 24, 25, 26, 27, 28, 29, 30, 31, 32, 33, 34, 35, 36, 37, 38] (by decide +kernel) (by decide +kernel)
set_option maxRecDepth 20000 in
theorem gX8_setMode_X8_fails : GoodIn wsX8_setMode (wsV RX8 64 RX8 yX8_fails wsX8_fails) := goodIn_app (goodIn_of _ (by decide +kernel)) ggX8_setMode_X8_fails
theorem dX8_setMode_0 : decode cX8_setMode 0 = .ok (.iload_n 1, 1) := by decide +kernel
theorem dX8_setMode_1 : decode cX8_setMode 1 = .ok (.iconst 0, 1) := by decide +kernel
theorem dX8_setMode_2 : decode cX8_setMode 2 = .ok (.iconst 2, 1) := by decide +kernel
theorem dX8_setMode_3 : decode cX8_setMode 3 = .ok (.invokestatic 56, 3) := by decide +kernel
theorem dX8_setMode_6 : decode cX8_setMode 6 = .ok (.ifCond .eq 12, 3) := by decide +kernel
theorem dX8_setMode_9 : decode cX8_setMode 9 = .ok (.aload_n 0, 1) := by decide +kernel
theorem dX8_setMode_10 : decode cX8_setMode 10 = .ok (.iconst 4, 1) := by decide +kernel
theorem dX8_setMode_11 : decode cX8_setMode 11 = .ok (.iload_n 1, 1) := by decide +kernel
theorem dX8_setMode_12 : decode cX8_setMode 12 = .ok (.invokevirtual 82, 3) := by decide +kernel
theorem dX8_setMode_15 : decode cX8_setMode 15 = .ok (.goto 9, 3) := by decide +kernel
theorem dX8_setMode_18 : decode cX8_setMode 18 = .ok (.aload_n 0, 1) := by decide +kernel
theorem dX8_setMode_19 : decode cX8_setMode 19 = .ok (.bipush (-2), 2) := by decide +kernel
theorem dX8_setMode_21 : decode cX8_setMode 21 = .ok (.invokevirtual 64, 3) := by decide +kernel
theorem dX8_setMode_24 : decode cX8_setMode 24 = .ok (.ireturn, 1) := by decide +kernel
theorem dX8_nodeCount_0 : decode cX8_nodeCount 0 = .ok (.aload_n 0, 1) := by decide +kernel
theorem dX8_nodeCount_1 : decode cX8_nodeCount 1 = .ok (.getfield 7, 3) := by decide +kernel
theorem dX8_nodeCount_4 : decode cX8_nodeCount 4 = .ok (.iconst 0, 1) := by decide +kernel
theorem dX8_nodeCount_5 : decode cX8_nodeCount 5 = .ok (.iaload, 1) := by decide +kernel
theorem dX8_nodeCount_6 : decode cX8_nodeCount 6 = .ok (.ireturn, 1) := by decide +kernel
set_option maxRecDepth 20000 in
theorem ggX8_size_X8_isNode : GoodIn wsX8_size wsX8_isNode := goodIn_r _ [5, 6, 7, 8, 4, 9, 27, 28, 29, 30, 31, 32, 33, 34, 35, 36, 37, 38, 39, 40, 41, 42, 43, 44] (by decide +kernel) (by decide +kernel)
set_option maxRecDepth 20000 in
theorem gX8_size_X8_isNode : GoodIn wsX8_size (wsV RX8 75 RX8 yX8_isNode wsX8_isNode) := goodIn_app (goodIn_of _ (by decide +kernel)) ggX8_size_X8_isNode
set_option maxRecDepth 20000 in
theorem ggX8_size_X8_sizeOf : GoodIn wsX8_size wsX8_sizeOf := goodIn_r _ [13, 6, 14, 15, 16, 4, 17, 18, 19, 20, 21, 27, 28, 29, 30, 31, 32, 33, 34, 35, 36, 37, 38, 39, 40, 41, 42, 43, 44] (by decide +kernel) (by decide +kernel)
set_option maxRecDepth 20000 in
theorem gX8_size_X8_sizeOf : GoodIn wsX8_size (wsV RX8 86 RX8 yX8_sizeOf wsX8_sizeOf) := goodIn_app (goodIn_of _ (by decide +kernel)) ggX8_size_X8_sizeOf
set_option maxRecDepth 20000 in
theorem ggX8_size_X8_fails : GoodIn wsX8_size wsX8_fails := goodIn_r _ [25, 26, 27, 28, 29, 30, 31, 32, 33, 34, 35, 36, 37, 38, 39, 40, 41, 42, 43, 44] (by decide +kernel) (by decide +kernel)
set_option maxRecDepth 20000 in
theorem gX8_size_X8_fails : GoodIn wsX8_size (wsV RX8 64 RX8 yX8_fails wsX8_fails) := goodIn_app (goodIn_of _ (by decide +kernel)) ggX8_size_X8_fails
theorem dX8_size_0 : decode cX8_size 0 = .ok (.aload_n 0, 1) := by decide +kernel
theorem dX8_size_1 : decode cX8_size 1 = .ok (.iload_n 1, 1) := by decide +kernel
theorem dX8_size_2 : decode cX8_size 2 = .ok (.invokevirtual 75, 3) := by decide +kernel
theorem dX8_size_5 : decode cX8_size 5 = .ok (.ifCond .eq 11, 3) := by decide +kernel
theorem dX8_size_8 : decode cX8_size 8 = .ok (.aload_n 0, 1) := by decide +kernel
theorem dX8_size_9 : decode cX8_size 9 = .ok (.iload_n 1, 1) := by decide +kernel
theorem dX8_size_10 : decode cX8_size 10 = .ok (.invokevirtual 86, 3) := by decide +kernel
theorem dX8_size_13 : decode cX8_size 13 = .ok (.goto 9, 3) := by decide +kernel
theorem dX8_size_16 : decode cX8_size 16 = .ok (.aload_n 0, 1) := by decide +kernel
theorem dX8_size_17 : decode cX8_size 17 = .ok (.bipush (-2), 2) := by decide +kernel
theorem dX8_size_19 : decode cX8_size 19 = .ok (.invokevirtual 64, 3) := by decide +kernel
theorem dX8_size_22 : decode cX8_size 22 = .ok (.ireturn, 1) := by decide +kernel
set_option maxRecDepth 20000 in
theorem ggX8_parent_X8_isNode : GoodIn wsX8_parent wsX8_isNode := goodIn_r _ [6, 1, 7, 8, 5, 9, 15, 16, 17, 18, 19, 20, 21, 22, 23, 24, 25, 26, 27, 28, 29, 30, 31, 32] (by decide +kernel) (by decide +kernel)
set_option maxRecDepth 20000 in
theorem gX8_parent_X8_isNode : GoodIn wsX8_parent (wsV RX8 75 RX8 yX8_isNode wsX8_isNode) := goodIn_app (goodIn_of _ (by decide +kernel)) ggX8_parent_X8_isNode
set_option maxRecDepth 20000 in
theorem ggX8_parent_X8_fails : GoodIn wsX8_parent wsX8_fails := goodIn_r _ [13, 14, 15, 16, 17, 18, 19, 20, 21, 22, 23, 24, 25, 26, 27, 28, 29, 30, 31, 32] (by decide +kernel) (by decide +kernel)
set_option maxRecDepth 20000 in
theorem gX8_parent_X8_fails : GoodIn wsX8_parent (wsV RX8 64 RX8 yX8_fails wsX8_fails) := goodIn_app (goodIn_of _ (by decide +kernel)) ggX8_parent_X8_fails
theorem dX8_parent_0 : decode cX8_parent 0 = .ok (.aload_n 0, 1) := by decide +kernel
theorem dX8_parent_1 : decode cX8_parent 1 = .ok (.iload_n 1, 1) := by decide +kernel
theorem dX8_parent_2 : decode cX8_parent 2 = .ok (.invokevirtual 75, 3) := by decide +kernel
theorem dX8_parent_5 : decode cX8_parent 5 = .ok (.ifCond .eq 15, 3) := by decide +kernel
theorem dX8_parent_8 : decode cX8_parent 8 = .ok (.aload_n 0, 1) := by decide +kernel
theorem dX8_parent_9 : decode cX8_parent 9 = .ok (.getfield 7, 3) := by decide +kernel
theorem dX8_parent_12 : decode cX8_parent 12 = .ok (.bipush 29, 2) := by decide +kernel
theorem dX8_parent_14 : decode cX8_parent 14 = .ok (.iload_n 1, 1) := by decide +kernel
theorem dX8_parent_15 : decode cX8_parent 15 = .ok (.iadd, 1) := by decide +kernel
theorem dX8_parent_16 : decode cX8_parent 16 = .ok (.iaload, 1) := by decide +kernel
theorem dX8_parent_17 : decode cX8_parent 17 = .ok (.goto 9, 3) := by decide +kernel
theorem dX8_parent_20 : decode cX8_parent 20 = .ok (.aload_n 0, 1) := by decide +kernel
theorem dX8_parent_21 : decode cX8_parent 21 = .ok (.bipush (-2), 2) := by decide +kernel
theorem dX8_parent_23 : decode cX8_parent 23 = .ok (.invokevirtual 64, 3) := by decide +kernel
theorem dX8_parent_26 : decode cX8_parent 26 = .ok (.ireturn, 1) := by decide +kernel
set_option maxRecDepth 20000 in
theorem ggX8_depth_X8_isNode : GoodIn wsX8_depth wsX8_isNode := goodIn_r _ [5, 6, 7, 8, 4, 9, 19, 20, 21, 22, 23, 24, 25, 26, 27, 28, 29, 30, 31, 32, 33, 34, 35, 36] (by decide +kernel) (by decide +kernel)
set_option maxRecDepth 20000 in
theorem gX8_depth_X8_isNode : GoodIn wsX8_depth (wsV RX8 75 RX8 yX8_isNode wsX8_isNode) := goodIn_app (goodIn_of _ (by decide +kernel)) ggX8_depth_X8_isNode
set_option maxRecDepth 20000 in
theorem ggX8_depth_X8_depthOf : GoodIn wsX8_depth wsX8_depthOf := goodIn_r _ [13, 6, 19, 20, 21, 22, 23, 24, 25, 26, 27, 28, 29, 30, 31, 32, 33, 34, 35, 36] (by decide +kernel) (by decide +kernel)
set_option maxRecDepth 20000 in
theorem gX8_depth_X8_depthOf : GoodIn wsX8_depth (wsV RX8 89 RX8 yX8_depthOf wsX8_depthOf) := goodIn_app (goodIn_of _ (by decide +kernel)) ggX8_depth_X8_depthOf
set_option maxRecDepth 20000 in
theorem ggX8_depth_X8_fails : GoodIn wsX8_depth wsX8_fails := goodIn_r _ [17, 18, 19, 20, 21, 22, 23, 24, 25, 26, 27, 28, 29, 30, 31, 32, 33, 34, 35, 36] (by decide +kernel) (by decide +kernel)
set_option maxRecDepth 20000 in
theorem gX8_depth_X8_fails : GoodIn wsX8_depth (wsV RX8 64 RX8 yX8_fails wsX8_fails) := goodIn_app (goodIn_of _ (by decide +kernel)) ggX8_depth_X8_fails
theorem dX8_depth_0 : decode cX8_depth 0 = .ok (.aload_n 0, 1) := by decide +kernel
theorem dX8_depth_1 : decode cX8_depth 1 = .ok (.iload_n 1, 1) := by decide +kernel
theorem dX8_depth_2 : decode cX8_depth 2 = .ok (.invokevirtual 75, 3) := by decide +kernel
theorem dX8_depth_5 : decode cX8_depth 5 = .ok (.ifCond .eq 11, 3) := by decide +kernel
theorem dX8_depth_8 : decode cX8_depth 8 = .ok (.aload_n 0, 1) := by decide +kernel
theorem dX8_depth_9 : decode cX8_depth 9 = .ok (.iload_n 1, 1) := by decide +kernel
theorem dX8_depth_10 : decode cX8_depth 10 = .ok (.invokevirtual 89, 3) := by decide +kernel
theorem dX8_depth_13 : decode cX8_depth 13 = .ok (.goto 9, 3) := by decide +kernel
theorem dX8_depth_16 : decode cX8_depth 16 = .ok (.aload_n 0, 1) := by decide +kernel
theorem dX8_depth_17 : decode cX8_depth 17 = .ok (.bipush (-2), 2) := by decide +kernel
theorem dX8_depth_19 : decode cX8_depth 19 = .ok (.invokevirtual 64, 3) := by decide +kernel
theorem dX8_depth_22 : decode cX8_depth 22 = .ok (.ireturn, 1) := by decide +kernel
set_option maxRecDepth 20000 in
theorem ggX8_leaves_X8_childMany : GoodIn wsX8_leaves wsX8_childMany := goodIn_r _ [6, 1, 7, 8, 9, 10, 11, 12, 13, 14, 15, 16, 17, 18, 19, 20, 21, 22, 23, 24] (by decide +kernel) (by decide +kernel)
set_option maxRecDepth 20000 in
theorem gX8_leaves_X8_childMany : GoodIn wsX8_leaves (wsV RX8 68 RX8 yX8_childMany wsX8_childMany) := goodIn_app (goodIn_of _ (by decide +kernel)) ggX8_leaves_X8_childMany
theorem dX8_leaves_0 : decode cX8_leaves 0 = .ok (.iconst 0, 1) := by decide +kernel
theorem dX8_leaves_1 : decode cX8_leaves 1 = .ok (.istore_n 1, 1) := by decide +kernel
theorem dX8_leaves_2 : decode cX8_leaves 2 = .ok (.iconst 0, 1) := by decide +kernel
theorem dX8_leaves_3 : decode cX8_leaves 3 = .ok (.istore_n 2, 1) := by decide +kernel
theorem dX8_leaves_4 : decode cX8_leaves 4 = .ok (.iload_n 2, 1) := by decide +kernel
theorem dX8_leaves_5 : decode cX8_leaves 5 = .ok (.aload_n 0, 1) := by decide +kernel
theorem dX8_leaves_6 : decode cX8_leaves 6 = .ok (.getfield 7, 3) := by decide +kernel
theorem dX8_leaves_9 : decode cX8_leaves 9 = .ok (.iconst 0, 1) := by decide +kernel
theorem dX8_leaves_10 : decode cX8_leaves 10 = .ok (.iaload, 1) := by decide +kernel
theorem dX8_leaves_11 : decode cX8_leaves 11 = .ok (.if_icmp .ge 25, 3) := by decide +kernel
theorem dX8_leaves_14 : decode cX8_leaves 14 = .ok (.iload_n 1, 1) := by decide +kernel
theorem dX8_leaves_15 : decode cX8_leaves 15 = .ok (.aload_n 0, 1) := by decide +kernel
theorem dX8_leaves_16 : decode cX8_leaves 16 = .ok (.iload_n 2, 1) := by decide +kernel
theorem dX8_leaves_17 : decode cX8_leaves 17 = .ok (.invokevirtual 68, 3) := by decide +kernel
theorem dX8_leaves_20 : decode cX8_leaves 20 = .ok (.ifCond .ne 7, 3) := by decide +kernel
theorem dX8_leaves_23 : decode cX8_leaves 23 = .ok (.iconst 1, 1) := by decide +kernel
theorem dX8_leaves_24 : decode cX8_leaves 24 = .ok (.goto 4, 3) := by decide +kernel
theorem dX8_leaves_27 : decode cX8_leaves 27 = .ok (.iconst 0, 1) := by decide +kernel
theorem dX8_leaves_28 : decode cX8_leaves 28 = .ok (.iadd, 1) := by decide +kernel
theorem dX8_leaves_29 : decode cX8_leaves 29 = .ok (.istore_n 1, 1) := by decide +kernel
theorem dX8_leaves_30 : decode cX8_leaves 30 = .ok (.iinc 2 1, 3) := by decide +kernel
theorem dX8_leaves_33 : decode cX8_leaves 33 = .ok (.goto (-29), 3) := by decide +kernel
theorem dX8_leaves_36 : decode cX8_leaves 36 = .ok (.iload_n 1, 1) := by decide +kernel
theorem dX8_leaves_37 : decode cX8_leaves 37 = .ok (.ireturn, 1) := by decide +kernel
set_option maxRecDepth 20000 in
theorem ggX8_leafCount_X8_leaves : GoodIn wsX8_leafCount wsX8_leaves := goodIn_r _ [5, 6, 7, 8, 9, 4, 10, 11, 12, 13, 14, 15, 16, 17, 18, 19, 20, 21, 22, 23, 24, 25, 26, 27, 28] (by decide +kernel) (by decide +kernel)
set_option maxRecDepth 20000 in
theorem gX8_leafCount_X8_leaves : GoodIn wsX8_leafCount (wsV RX8 92 RX8 yX8_leaves wsX8_leaves) := goodIn_app (goodIn_of _ (by decide +kernel)) ggX8_leafCount_X8_leaves
theorem dX8_leafCount_0 : decode cX8_leafCount 0 = .ok (.aload_n 0, 1) := by decide +kernel
theorem dX8_leafCount_1 : decode cX8_leafCount 1 = .ok (.invokevirtual 92, 3) := by decide +kernel
theorem dX8_leafCount_4 : decode cX8_leafCount 4 = .ok (.ireturn, 1) := by decide +kernel
theorem dX8_parts_0 : decode cX8_parts 0 = .ok (.iconst 0, 1) := by decide +kernel
theorem dX8_parts_1 : decode cX8_parts 1 = .ok (.istore_n 3, 1) := by decide +kernel
theorem dX8_parts_2 : decode cX8_parts 2 = .ok (.iconst 0, 1) := by decide +kernel
theorem dX8_parts_3 : decode cX8_parts 3 = .ok (.istore 4, 2) := by decide +kernel
theorem dX8_parts_5 : decode cX8_parts 5 = .ok (.iload 4, 2) := by decide +kernel
theorem dX8_parts_7 : decode cX8_parts 7 = .ok (.iload_n 2, 1) := by decide +kernel
theorem dX8_parts_8 : decode cX8_parts 8 = .ok (.if_icmp .ge 19, 3) := by decide +kernel
theorem dX8_parts_11 : decode cX8_parts 11 = .ok (.iload_n 3, 1) := by decide +kernel
theorem dX8_parts_12 : decode cX8_parts 12 = .ok (.aload_n 0, 1) := by decide +kernel
theorem dX8_parts_13 : decode cX8_parts 13 = .ok (.getfield 19, 3) := by decide +kernel
theorem dX8_parts_16 : decode cX8_parts 16 = .ok (.iload 4, 2) := by decide +kernel
theorem dX8_parts_18 : decode cX8_parts 18 = .ok (.iaload, 1) := by decide +kernel
theorem dX8_parts_19 : decode cX8_parts 19 = .ok (.iadd, 1) := by decide +kernel
theorem dX8_parts_20 : decode cX8_parts 20 = .ok (.istore_n 3, 1) := by decide +kernel
theorem dX8_parts_21 : decode cX8_parts 21 = .ok (.iinc 4 1, 3) := by decide +kernel
theorem dX8_parts_24 : decode cX8_parts 24 = .ok (.goto (-19), 3) := by decide +kernel
theorem dX8_parts_27 : decode cX8_parts 27 = .ok (.iload_n 1, 1) := by decide +kernel
theorem dX8_parts_28 : decode cX8_parts 28 = .ok (.istore 4, 2) := by decide +kernel
theorem dX8_parts_30 : decode cX8_parts 30 = .ok (.iconst 0, 1) := by decide +kernel
theorem dX8_parts_31 : decode cX8_parts 31 = .ok (.istore 5, 2) := by decide +kernel
theorem dX8_parts_33 : decode cX8_parts 33 = .ok (.iload 5, 2) := by decide +kernel
theorem dX8_parts_35 : decode cX8_parts 35 = .ok (.iload_n 2, 1) := by decide +kernel
theorem dX8_parts_36 : decode cX8_parts 36 = .ok (.if_icmp .ge 39, 3) := by decide +kernel
theorem dX8_parts_39 : decode cX8_parts 39 = .ok (.aload_n 0, 1) := by decide +kernel
theorem dX8_parts_40 : decode cX8_parts 40 = .ok (.getfield 22, 3) := by decide +kernel
theorem dX8_parts_43 : decode cX8_parts 43 = .ok (.iload 5, 2) := by decide +kernel
theorem dX8_parts_45 : decode cX8_parts 45 = .ok (.aload_n 0, 1) := by decide +kernel
theorem dX8_parts_46 : decode cX8_parts 46 = .ok (.getfield 19, 3) := by decide +kernel
theorem dX8_parts_49 : decode cX8_parts 49 = .ok (.iload 5, 2) := by decide +kernel
theorem dX8_parts_51 : decode cX8_parts 51 = .ok (.iaload, 1) := by decide +kernel
theorem dX8_parts_52 : decode cX8_parts 52 = .ok (.iload_n 1, 1) := by decide +kernel
theorem dX8_parts_53 : decode cX8_parts 53 = .ok (.imul, 1) := by decide +kernel
theorem dX8_parts_54 : decode cX8_parts 54 = .ok (.iload_n 3, 1) := by decide +kernel
theorem dX8_parts_55 : decode cX8_parts 55 = .ok (.idiv, 1) := by decide +kernel
theorem dX8_parts_56 : decode cX8_parts 56 = .ok (.iastore, 1) := by decide +kernel
theorem dX8_parts_57 : decode cX8_parts 57 = .ok (.iload 4, 2) := by decide +kernel
theorem dX8_parts_59 : decode cX8_parts 59 = .ok (.aload_n 0, 1) := by decide +kernel
theorem dX8_parts_60 : decode cX8_parts 60 = .ok (.getfield 22, 3) := by decide +kernel
theorem dX8_parts_63 : decode cX8_parts 63 = .ok (.iload 5, 2) := by decide +kernel
theorem dX8_parts_65 : decode cX8_parts 65 = .ok (.iaload, 1) := by decide +kernel
theorem dX8_parts_66 : decode cX8_parts 66 = .ok (.isub, 1) := by decide +kernel
theorem dX8_parts_67 : decode cX8_parts 67 = .ok (.istore 4, 2) := by decide +kernel
theorem dX8_parts_69 : decode cX8_parts 69 = .ok (.iinc 5 1, 3) := by decide +kernel
theorem dX8_parts_72 : decode cX8_parts 72 = .ok (.goto (-39), 3) := by decide +kernel
theorem dX8_parts_75 : decode cX8_parts 75 = .ok (.iconst 0, 1) := by decide +kernel
theorem dX8_parts_76 : decode cX8_parts 76 = .ok (.istore 5, 2) := by decide +kernel
theorem dX8_parts_78 : decode cX8_parts 78 = .ok (.iload 4, 2) := by decide +kernel
theorem dX8_parts_80 : decode cX8_parts 80 = .ok (.ifCond .le 109, 3) := by decide +kernel
theorem dX8_parts_83 : decode cX8_parts 83 = .ok (.iconst (-1), 1) := by decide +kernel
theorem dX8_parts_84 : decode cX8_parts 84 = .ok (.istore 6, 2) := by decide +kernel
theorem dX8_parts_86 : decode cX8_parts 86 = .ok (.iconst 0, 1) := by decide +kernel
theorem dX8_parts_87 : decode cX8_parts 87 = .ok (.istore 7, 2) := by decide +kernel
theorem dX8_parts_89 : decode cX8_parts 89 = .ok (.iload 7, 2) := by decide +kernel
theorem dX8_parts_91 : decode cX8_parts 91 = .ok (.iload_n 2, 1) := by decide +kernel
theorem dX8_parts_92 : decode cX8_parts 92 = .ok (.if_icmp .ge 71, 3) := by decide +kernel
theorem dX8_parts_95 : decode cX8_parts 95 = .ok (.iload 5, 2) := by decide +kernel
theorem dX8_parts_97 : decode cX8_parts 97 = .ok (.iload 7, 2) := by decide +kernel
theorem dX8_parts_99 : decode cX8_parts 99 = .ok (.ishr, 1) := by decide +kernel
theorem dX8_parts_100 : decode cX8_parts 100 = .ok (.iconst 1, 1) := by decide +kernel
theorem dX8_parts_101 : decode cX8_parts 101 = .ok (.iand, 1) := by decide +kernel
theorem dX8_parts_102 : decode cX8_parts 102 = .ok (.ifCond .ne 7, 3) := by decide +kernel
theorem dX8_parts_105 : decode cX8_parts 105 = .ok (.iconst 1, 1) := by decide +kernel
theorem dX8_parts_106 : decode cX8_parts 106 = .ok (.goto 4, 3) := by decide +kernel
theorem dX8_parts_109 : decode cX8_parts 109 = .ok (.iconst 0, 1) := by decide +kernel
theorem dX8_parts_110 : decode cX8_parts 110 = .ok (.istore 8, 2) := by decide +kernel
theorem dX8_parts_112 : decode cX8_parts 112 = .ok (.iload 8, 2) := by decide +kernel
theorem dX8_parts_114 : decode cX8_parts 114 = .ok (.ifCond .eq 39, 3) := by decide +kernel
theorem dX8_parts_117 : decode cX8_parts 117 = .ok (.iload 6, 2) := by decide +kernel
theorem dX8_parts_119 : decode cX8_parts 119 = .ok (.iconst (-1), 1) := by decide +kernel
theorem dX8_parts_120 : decode cX8_parts 120 = .ok (.if_icmp .eq 28, 3) := by decide +kernel
theorem dX8_parts_123 : decode cX8_parts 123 = .ok (.aload_n 0, 1) := by decide +kernel
theorem dX8_parts_124 : decode cX8_parts 124 = .ok (.getfield 19, 3) := by decide +kernel
theorem dX8_parts_127 : decode cX8_parts 127 = .ok (.iload 7, 2) := by decide +kernel
theorem dX8_parts_129 : decode cX8_parts 129 = .ok (.iaload, 1) := by decide +kernel
theorem dX8_parts_130 : decode cX8_parts 130 = .ok (.iload_n 1, 1) := by decide +kernel
theorem dX8_parts_131 : decode cX8_parts 131 = .ok (.imul, 1) := by decide +kernel
theorem dX8_parts_132 : decode cX8_parts 132 = .ok (.iload_n 3, 1) := by decide +kernel
theorem dX8_parts_133 : decode cX8_parts 133 = .ok (.irem, 1) := by decide +kernel
theorem dX8_parts_134 : decode cX8_parts 134 = .ok (.aload_n 0, 1) := by decide +kernel
theorem dX8_parts_135 : decode cX8_parts 135 = .ok (.getfield 19, 3) := by decide +kernel
theorem dX8_parts_138 : decode cX8_parts 138 = .ok (.iload 6, 2) := by decide +kernel
theorem dX8_parts_140 : decode cX8_parts 140 = .ok (.iaload, 1) := by decide +kernel
theorem dX8_parts_141 : decode cX8_parts 141 = .ok (.iload_n 1, 1) := by decide +kernel
theorem dX8_parts_142 : decode cX8_parts 142 = .ok (.imul, 1) := by decide +kernel
theorem dX8_parts_143 : decode cX8_parts 143 = .ok (.iload_n 3, 1) := by decide +kernel
theorem dX8_parts_144 : decode cX8_parts 144 = .ok (.irem, 1) := by decide +kernel
theorem dX8_parts_145 : decode cX8_parts 145 = .ok (.if_icmp .le 8, 3) := by decide +kernel
theorem dX8_parts_148 : decode cX8_parts 148 = .ok (.iload 7, 2) := by decide +kernel
theorem dX8_parts_150 : decode cX8_parts 150 = .ok (.goto 5, 3) := by decide +kernel
theorem dX8_parts_153 : decode cX8_parts 153 = .ok (.iload 6, 2) := by decide +kernel
theorem dX8_parts_155 : decode cX8_parts 155 = .ok (.istore 6, 2) := by decide +kernel
theorem dX8_parts_157 : decode cX8_parts 157 = .ok (.iinc 7 1, 3) := by decide +kernel
theorem dX8_parts_160 : decode cX8_parts 160 = .ok (.goto (-71), 3) := by decide +kernel
theorem dX8_parts_163 : decode cX8_parts 163 = .ok (.iload 5, 2) := by decide +kernel
theorem dX8_parts_165 : decode cX8_parts 165 = .ok (.iconst 1, 1) := by decide +kernel
theorem dX8_parts_166 : decode cX8_parts 166 = .ok (.iload 6, 2) := by decide +kernel
theorem dX8_parts_168 : decode cX8_parts 168 = .ok (.ishl, 1) := by decide +kernel
theorem dX8_parts_169 : decode cX8_parts 169 = .ok (.ior, 1) := by decide +kernel
theorem dX8_parts_170 : decode cX8_parts 170 = .ok (.istore 5, 2) := by decide +kernel
theorem dX8_parts_172 : decode cX8_parts 172 = .ok (.aload_n 0, 1) := by decide +kernel
theorem dX8_parts_173 : decode cX8_parts 173 = .ok (.getfield 22, 3) := by decide +kernel
theorem dX8_parts_176 : decode cX8_parts 176 = .ok (.iload 6, 2) := by decide +kernel
theorem dX8_parts_178 : decode cX8_parts 178 = .ok (.dup2, 1) := by decide +kernel
theorem dX8_parts_179 : decode cX8_parts 179 = .ok (.iaload, 1) := by decide +kernel
theorem dX8_parts_180 : decode cX8_parts 180 = .ok (.iconst 1, 1) := by decide +kernel
theorem dX8_parts_181 : decode cX8_parts 181 = .ok (.iadd, 1) := by decide +kernel
theorem dX8_parts_182 : decode cX8_parts 182 = .ok (.iastore, 1) := by decide +kernel
theorem dX8_parts_183 : decode cX8_parts 183 = .ok (.iinc 4 (-1), 3) := by decide +kernel
theorem dX8_parts_186 : decode cX8_parts 186 = .ok (.goto (-108), 3) := by decide +kernel
theorem dX8_parts_189 : decode cX8_parts 189 = .ok (.return_, 1) := by decide +kernel
theorem dX8_puts_0 : decode cX8_puts 0 = .ok (.aload_n 0, 1) := by decide +kernel
theorem dX8_puts_1 : decode cX8_puts 1 = .ok (.getfield 25, 3) := by decide +kernel
theorem dX8_puts_4 : decode cX8_puts 4 = .ok (.iload_n 1, 1) := by decide +kernel
theorem dX8_puts_5 : decode cX8_puts 5 = .ok (.iload_n 2, 1) := by decide +kernel
theorem dX8_puts_6 : decode cX8_puts 6 = .ok (.iastore, 1) := by decide +kernel
theorem dX8_puts_7 : decode cX8_puts 7 = .ok (.aload_n 0, 1) := by decide +kernel
theorem dX8_puts_8 : decode cX8_puts 8 = .ok (.getfield 28, 3) := by decide +kernel
theorem dX8_puts_11 : decode cX8_puts 11 = .ok (.iload_n 1, 1) := by decide +kernel
theorem dX8_puts_12 : decode cX8_puts 12 = .ok (.iload_n 3, 1) := by decide +kernel
theorem dX8_puts_13 : decode cX8_puts 13 = .ok (.iastore, 1) := by decide +kernel
theorem dX8_puts_14 : decode cX8_puts 14 = .ok (.aload_n 0, 1) := by decide +kernel
theorem dX8_puts_15 : decode cX8_puts 15 = .ok (.getfield 31, 3) := by decide +kernel
theorem dX8_puts_18 : decode cX8_puts 18 = .ok (.iload_n 1, 1) := by decide +kernel
theorem dX8_puts_19 : decode cX8_puts 19 = .ok (.iload 4, 2) := by decide +kernel
theorem dX8_puts_21 : decode cX8_puts 21 = .ok (.iastore, 1) := by decide +kernel
theorem dX8_puts_22 : decode cX8_puts 22 = .ok (.aload_n 0, 1) := by decide +kernel
theorem dX8_puts_23 : decode cX8_puts 23 = .ok (.getfield 34, 3) := by decide +kernel
theorem dX8_puts_26 : decode cX8_puts 26 = .ok (.iload_n 1, 1) := by decide +kernel
theorem dX8_puts_27 : decode cX8_puts 27 = .ok (.iload 5, 2) := by decide +kernel
theorem dX8_puts_29 : decode cX8_puts 29 = .ok (.iastore, 1) := by decide +kernel
theorem dX8_puts_30 : decode cX8_puts 30 = .ok (.return_, 1) := by decide +kernel
theorem dX8_laysChildren_0 : decode cX8_laysChildren 0 = .ok (.aload_n 0, 1) := by decide +kernel
theorem dX8_laysChildren_1 : decode cX8_laysChildren 1 = .ok (.iconst 0, 1) := by decide +kernel
theorem dX8_laysChildren_2 : decode cX8_laysChildren 2 = .ok (.putfield 96, 3) := by decide +kernel
theorem dX8_laysChildren_5 : decode cX8_laysChildren 5 = .ok (.iconst 0, 1) := by decide +kernel
theorem dX8_laysChildren_6 : decode cX8_laysChildren 6 = .ok (.istore_n 2, 1) := by decide +kernel
theorem dX8_laysChildren_7 : decode cX8_laysChildren 7 = .ok (.iload_n 2, 1) := by decide +kernel
theorem dX8_laysChildren_8 : decode cX8_laysChildren 8 = .ok (.aload_n 0, 1) := by decide +kernel
theorem dX8_laysChildren_9 : decode cX8_laysChildren 9 = .ok (.getfield 7, 3) := by decide +kernel
theorem dX8_laysChildren_12 : decode cX8_laysChildren 12 = .ok (.iconst 0, 1) := by decide +kernel
theorem dX8_laysChildren_13 : decode cX8_laysChildren 13 = .ok (.iaload, 1) := by decide +kernel
theorem dX8_laysChildren_14 : decode cX8_laysChildren 14 = .ok (.if_icmp .ge 42, 3) := by decide +kernel
theorem dX8_laysChildren_17 : decode cX8_laysChildren 17 = .ok (.aload_n 0, 1) := by decide +kernel
theorem dX8_laysChildren_18 : decode cX8_laysChildren 18 = .ok (.getfield 7, 3) := by decide +kernel
theorem dX8_laysChildren_21 : decode cX8_laysChildren 21 = .ok (.bipush 29, 2) := by decide +kernel
theorem dX8_laysChildren_23 : decode cX8_laysChildren 23 = .ok (.iload_n 2, 1) := by decide +kernel
theorem dX8_laysChildren_24 : decode cX8_laysChildren 24 = .ok (.iadd, 1) := by decide +kernel
theorem dX8_laysChildren_25 : decode cX8_laysChildren 25 = .ok (.iaload, 1) := by decide +kernel
theorem dX8_laysChildren_26 : decode cX8_laysChildren 26 = .ok (.iload_n 1, 1) := by decide +kernel
theorem dX8_laysChildren_27 : decode cX8_laysChildren 27 = .ok (.if_icmp .ne 23, 3) := by decide +kernel
theorem dX8_laysChildren_30 : decode cX8_laysChildren 30 = .ok (.aload_n 0, 1) := by decide +kernel
theorem dX8_laysChildren_31 : decode cX8_laysChildren 31 = .ok (.getfield 44, 3) := by decide +kernel
theorem dX8_laysChildren_34 : decode cX8_laysChildren 34 = .ok (.aload_n 0, 1) := by decide +kernel
theorem dX8_laysChildren_35 : decode cX8_laysChildren 35 = .ok (.getfield 96, 3) := by decide +kernel
theorem dX8_laysChildren_38 : decode cX8_laysChildren 38 = .ok (.iload_n 2, 1) := by decide +kernel
theorem dX8_laysChildren_39 : decode cX8_laysChildren 39 = .ok (.iastore, 1) := by decide +kernel
theorem dX8_laysChildren_40 : decode cX8_laysChildren 40 = .ok (.aload_n 0, 1) := by decide +kernel
theorem dX8_laysChildren_41 : decode cX8_laysChildren 41 = .ok (.dup, 1) := by decide +kernel
theorem dX8_laysChildren_42 : decode cX8_laysChildren 42 = .ok (.getfield 96, 3) := by decide +kernel
theorem dX8_laysChildren_45 : decode cX8_laysChildren 45 = .ok (.iconst 1, 1) := by decide +kernel
theorem dX8_laysChildren_46 : decode cX8_laysChildren 46 = .ok (.iadd, 1) := by decide +kernel
theorem dX8_laysChildren_47 : decode cX8_laysChildren 47 = .ok (.putfield 96, 3) := by decide +kernel
theorem dX8_laysChildren_50 : decode cX8_laysChildren 50 = .ok (.iinc 2 1, 3) := by decide +kernel
theorem dX8_laysChildren_53 : decode cX8_laysChildren 53 = .ok (.goto (-46), 3) := by decide +kernel
theorem dX8_laysChildren_56 : decode cX8_laysChildren 56 = .ok (.return_, 1) := by decide +kernel
theorem dX8_laysSizes_0 : decode cX8_laysSizes 0 = .ok (.iconst 0, 1) := by decide +kernel
theorem dX8_laysSizes_1 : decode cX8_laysSizes 1 = .ok (.istore_n 3, 1) := by decide +kernel
theorem dX8_laysSizes_2 : decode cX8_laysSizes 2 = .ok (.iload_n 3, 1) := by decide +kernel
theorem dX8_laysSizes_3 : decode cX8_laysSizes 3 = .ok (.iload_n 2, 1) := by decide +kernel
theorem dX8_laysSizes_4 : decode cX8_laysSizes 4 = .ok (.if_icmp .ge 28, 3) := by decide +kernel
theorem dX8_laysSizes_7 : decode cX8_laysSizes 7 = .ok (.aload_n 0, 1) := by decide +kernel
theorem dX8_laysSizes_8 : decode cX8_laysSizes 8 = .ok (.getfield 19, 3) := by decide +kernel
theorem dX8_laysSizes_11 : decode cX8_laysSizes 11 = .ok (.iload_n 3, 1) := by decide +kernel
theorem dX8_laysSizes_12 : decode cX8_laysSizes 12 = .ok (.aload_n 0, 1) := by decide +kernel
theorem dX8_laysSizes_13 : decode cX8_laysSizes 13 = .ok (.getfield 41, 3) := by decide +kernel
theorem dX8_laysSizes_16 : decode cX8_laysSizes 16 = .ok (.aload_n 0, 1) := by decide +kernel
theorem dX8_laysSizes_17 : decode cX8_laysSizes 17 = .ok (.getfield 44, 3) := by decide +kernel
theorem dX8_laysSizes_20 : decode cX8_laysSizes 20 = .ok (.iload_n 1, 1) := by decide +kernel
theorem dX8_laysSizes_21 : decode cX8_laysSizes 21 = .ok (.iload_n 3, 1) := by decide +kernel
theorem dX8_laysSizes_22 : decode cX8_laysSizes 22 = .ok (.iadd, 1) := by decide +kernel
theorem dX8_laysSizes_23 : decode cX8_laysSizes 23 = .ok (.iaload, 1) := by decide +kernel
theorem dX8_laysSizes_24 : decode cX8_laysSizes 24 = .ok (.iaload, 1) := by decide +kernel
theorem dX8_laysSizes_25 : decode cX8_laysSizes 25 = .ok (.iastore, 1) := by decide +kernel
theorem dX8_laysSizes_26 : decode cX8_laysSizes 26 = .ok (.iinc 3 1, 3) := by decide +kernel
theorem dX8_laysSizes_29 : decode cX8_laysSizes 29 = .ok (.goto (-27), 3) := by decide +kernel
theorem dX8_laysSizes_32 : decode cX8_laysSizes 32 = .ok (.return_, 1) := by decide +kernel
theorem dX8_sumOf_0 : decode cX8_sumOf 0 = .ok (.iconst 0, 1) := by decide +kernel
theorem dX8_sumOf_1 : decode cX8_sumOf 1 = .ok (.istore_n 3, 1) := by decide +kernel
theorem dX8_sumOf_2 : decode cX8_sumOf 2 = .ok (.iconst 0, 1) := by decide +kernel
theorem dX8_sumOf_3 : decode cX8_sumOf 3 = .ok (.istore 4, 2) := by decide +kernel
theorem dX8_sumOf_5 : decode cX8_sumOf 5 = .ok (.iload 4, 2) := by decide +kernel
theorem dX8_sumOf_7 : decode cX8_sumOf 7 = .ok (.iload_n 2, 1) := by decide +kernel
theorem dX8_sumOf_8 : decode cX8_sumOf 8 = .ok (.if_icmp .ge 26, 3) := by decide +kernel
theorem dX8_sumOf_11 : decode cX8_sumOf 11 = .ok (.iload_n 3, 1) := by decide +kernel
theorem dX8_sumOf_12 : decode cX8_sumOf 12 = .ok (.aload_n 0, 1) := by decide +kernel
theorem dX8_sumOf_13 : decode cX8_sumOf 13 = .ok (.getfield 41, 3) := by decide +kernel
theorem dX8_sumOf_16 : decode cX8_sumOf 16 = .ok (.aload_n 0, 1) := by decide +kernel
theorem dX8_sumOf_17 : decode cX8_sumOf 17 = .ok (.getfield 44, 3) := by decide +kernel
theorem dX8_sumOf_20 : decode cX8_sumOf 20 = .ok (.iload_n 1, 1) := by decide +kernel
theorem dX8_sumOf_21 : decode cX8_sumOf 21 = .ok (.iload 4, 2) := by decide +kernel
theorem dX8_sumOf_23 : decode cX8_sumOf 23 = .ok (.iadd, 1) := by decide +kernel
theorem dX8_sumOf_24 : decode cX8_sumOf 24 = .ok (.iaload, 1) := by decide +kernel
theorem dX8_sumOf_25 : decode cX8_sumOf 25 = .ok (.iaload, 1) := by decide +kernel
end
section
theorem dX8_sumOf_26 : decode cX8_sumOf 26 = .ok (.iadd, 1) := by decide +kernel
theorem dX8_sumOf_27 : decode cX8_sumOf 27 = .ok (.istore_n 3, 1) := by decide +kernel
theorem dX8_sumOf_28 : decode cX8_sumOf 28 = .ok (.iinc 4 1, 3) := by decide +kernel
theorem dX8_sumOf_31 : decode cX8_sumOf 31 = .ok (.goto (-26), 3) := by decide +kernel
theorem dX8_sumOf_34 : decode cX8_sumOf 34 = .ok (.iload_n 3, 1) := by decide +kernel
theorem dX8_sumOf_35 : decode cX8_sumOf 35 = .ok (.ireturn, 1) := by decide +kernel
set_option maxRecDepth 20000 in
theorem ggX8_laysRow_X8_laysSizes : GoodIn wsX8_laysRow wsX8_laysSizes := goodIn_r _ [7, 8, 9, 2, 22, 23, 24, 25, 26, 27, 28, 29, 30, 31, 32, 33, 34, 35, 36, 37, 38, 39] (by decide +kernel) (by decide +kernel)
set_option maxRecDepth 20000 in
theorem gX8_laysRow_X8_laysSizes : GoodIn wsX8_laysRow (wsV RX8 99 RX8 yX8_laysSizes wsX8_laysSizes) := goodIn_app (goodIn_of _ (by decide +kernel)) ggX8_laysRow_X8_laysSizes
set_option maxRecDepth 20000 in
theorem ggX8_laysRow_X8_parts : GoodIn wsX8_laysRow wsX8_parts := goodIn_r _ [13, 8, 1, 22, 23, 24, 25, 26, 27, 28, 29, 30, 31, 32, 33, 34, 35, 36, 37, 38, 39] (by decide +kernel) (by decide +kernel)
set_option maxRecDepth 20000 in
theorem gX8_laysRow_X8_parts : GoodIn wsX8_laysRow (wsV RX8 103 RX8 yX8_parts wsX8_parts) := goodIn_app (goodIn_of _ (by decide +kernel)) ggX8_laysRow_X8_parts
set_option maxRecDepth 20000 in
theorem ggX8_laysRow_X8_puts : GoodIn wsX8_laysRow wsX8_puts := goodIn_r _ [17, 18, 19, 20, 21, 22, 23, 24, 25, 26, 27, 28, 29, 30, 31, 32, 33, 34, 35, 36, 37, 38, 39] (by decide +kernel) (by decide +kernel)
set_option maxRecDepth 20000 in
theorem gX8_laysRow_X8_puts : GoodIn wsX8_laysRow (wsV RX8 106 RX8 yX8_puts wsX8_puts) := goodIn_app (goodIn_of _ (by decide +kernel)) ggX8_laysRow_X8_puts
theorem dX8_laysRow_0 : decode cX8_laysRow 0 = .ok (.aload_n 0, 1) := by decide +kernel
theorem dX8_laysRow_1 : decode cX8_laysRow 1 = .ok (.iload_n 1, 1) := by decide +kernel
theorem dX8_laysRow_2 : decode cX8_laysRow 2 = .ok (.iload_n 2, 1) := by decide +kernel
theorem dX8_laysRow_3 : decode cX8_laysRow 3 = .ok (.invokevirtual 99, 3) := by decide +kernel
theorem dX8_laysRow_6 : decode cX8_laysRow 6 = .ok (.aload_n 0, 1) := by decide +kernel
theorem dX8_laysRow_7 : decode cX8_laysRow 7 = .ok (.iload 7, 2) := by decide +kernel
theorem dX8_laysRow_9 : decode cX8_laysRow 9 = .ok (.ifCond .eq 8, 3) := by decide +kernel
theorem dX8_laysRow_12 : decode cX8_laysRow 12 = .ok (.iload 5, 2) := by decide +kernel
theorem dX8_laysRow_14 : decode cX8_laysRow 14 = .ok (.goto 5, 3) := by decide +kernel
theorem dX8_laysRow_17 : decode cX8_laysRow 17 = .ok (.iload 6, 2) := by decide +kernel
theorem dX8_laysRow_19 : decode cX8_laysRow 19 = .ok (.iload_n 2, 1) := by decide +kernel
theorem dX8_laysRow_20 : decode cX8_laysRow 20 = .ok (.invokevirtual 103, 3) := by decide +kernel
theorem dX8_laysRow_23 : decode cX8_laysRow 23 = .ok (.iload 7, 2) := by decide +kernel
theorem dX8_laysRow_25 : decode cX8_laysRow 25 = .ok (.ifCond .eq 7, 3) := by decide +kernel
theorem dX8_laysRow_28 : decode cX8_laysRow 28 = .ok (.iload_n 3, 1) := by decide +kernel
theorem dX8_laysRow_29 : decode cX8_laysRow 29 = .ok (.goto 5, 3) := by decide +kernel
theorem dX8_laysRow_32 : decode cX8_laysRow 32 = .ok (.iload 4, 2) := by decide +kernel
theorem dX8_laysRow_34 : decode cX8_laysRow 34 = .ok (.istore 8, 2) := by decide +kernel
theorem dX8_laysRow_36 : decode cX8_laysRow 36 = .ok (.iconst 0, 1) := by decide +kernel
theorem dX8_laysRow_37 : decode cX8_laysRow 37 = .ok (.istore 9, 2) := by decide +kernel
theorem dX8_laysRow_39 : decode cX8_laysRow 39 = .ok (.iload 9, 2) := by decide +kernel
theorem dX8_laysRow_41 : decode cX8_laysRow 41 = .ok (.iload_n 2, 1) := by decide +kernel
theorem dX8_laysRow_42 : decode cX8_laysRow 42 = .ok (.if_icmp .ge 85, 3) := by decide +kernel
theorem dX8_laysRow_45 : decode cX8_laysRow 45 = .ok (.aload_n 0, 1) := by decide +kernel
theorem dX8_laysRow_46 : decode cX8_laysRow 46 = .ok (.getfield 22, 3) := by decide +kernel
theorem dX8_laysRow_49 : decode cX8_laysRow 49 = .ok (.iload 9, 2) := by decide +kernel
theorem dX8_laysRow_51 : decode cX8_laysRow 51 = .ok (.iaload, 1) := by decide +kernel
theorem dX8_laysRow_52 : decode cX8_laysRow 52 = .ok (.istore 10, 2) := by decide +kernel
theorem dX8_laysRow_54 : decode cX8_laysRow 54 = .ok (.aload_n 0, 1) := by decide +kernel
theorem dX8_laysRow_55 : decode cX8_laysRow 55 = .ok (.aload_n 0, 1) := by decide +kernel
theorem dX8_laysRow_56 : decode cX8_laysRow 56 = .ok (.getfield 44, 3) := by decide +kernel
theorem dX8_laysRow_59 : decode cX8_laysRow 59 = .ok (.iload_n 1, 1) := by decide +kernel
theorem dX8_laysRow_60 : decode cX8_laysRow 60 = .ok (.iload 9, 2) := by decide +kernel
theorem dX8_laysRow_62 : decode cX8_laysRow 62 = .ok (.iadd, 1) := by decide +kernel
theorem dX8_laysRow_63 : decode cX8_laysRow 63 = .ok (.iaload, 1) := by decide +kernel
theorem dX8_laysRow_64 : decode cX8_laysRow 64 = .ok (.iload 7, 2) := by decide +kernel
theorem dX8_laysRow_66 : decode cX8_laysRow 66 = .ok (.ifCond .eq 8, 3) := by decide +kernel
theorem dX8_laysRow_69 : decode cX8_laysRow 69 = .ok (.iload 8, 2) := by decide +kernel
theorem dX8_laysRow_71 : decode cX8_laysRow 71 = .ok (.goto 4, 3) := by decide +kernel
theorem dX8_laysRow_74 : decode cX8_laysRow 74 = .ok (.iload_n 3, 1) := by decide +kernel
theorem dX8_laysRow_75 : decode cX8_laysRow 75 = .ok (.iload 7, 2) := by decide +kernel
theorem dX8_laysRow_77 : decode cX8_laysRow 77 = .ok (.ifCond .eq 8, 3) := by decide +kernel
theorem dX8_laysRow_80 : decode cX8_laysRow 80 = .ok (.iload 4, 2) := by decide +kernel
theorem dX8_laysRow_82 : decode cX8_laysRow 82 = .ok (.goto 5, 3) := by decide +kernel
theorem dX8_laysRow_85 : decode cX8_laysRow 85 = .ok (.iload 8, 2) := by decide +kernel
theorem dX8_laysRow_87 : decode cX8_laysRow 87 = .ok (.iload 7, 2) := by decide +kernel
theorem dX8_laysRow_89 : decode cX8_laysRow 89 = .ok (.ifCond .eq 8, 3) := by decide +kernel
theorem dX8_laysRow_92 : decode cX8_laysRow 92 = .ok (.iload 10, 2) := by decide +kernel
theorem dX8_laysRow_94 : decode cX8_laysRow 94 = .ok (.goto 5, 3) := by decide +kernel
theorem dX8_laysRow_97 : decode cX8_laysRow 97 = .ok (.iload 5, 2) := by decide +kernel
theorem dX8_laysRow_99 : decode cX8_laysRow 99 = .ok (.iload 7, 2) := by decide +kernel
theorem dX8_laysRow_101 : decode cX8_laysRow 101 = .ok (.ifCond .eq 8, 3) := by decide +kernel
theorem dX8_laysRow_104 : decode cX8_laysRow 104 = .ok (.iload 6, 2) := by decide +kernel
theorem dX8_laysRow_106 : decode cX8_laysRow 106 = .ok (.goto 5, 3) := by decide +kernel
theorem dX8_laysRow_109 : decode cX8_laysRow 109 = .ok (.iload 10, 2) := by decide +kernel
theorem dX8_laysRow_111 : decode cX8_laysRow 111 = .ok (.invokevirtual 106, 3) := by decide +kernel
theorem dX8_laysRow_114 : decode cX8_laysRow 114 = .ok (.iload 8, 2) := by decide +kernel
theorem dX8_laysRow_116 : decode cX8_laysRow 116 = .ok (.iload 10, 2) := by decide +kernel
theorem dX8_laysRow_118 : decode cX8_laysRow 118 = .ok (.iadd, 1) := by decide +kernel
theorem dX8_laysRow_119 : decode cX8_laysRow 119 = .ok (.istore 8, 2) := by decide +kernel
theorem dX8_laysRow_121 : decode cX8_laysRow 121 = .ok (.iinc 9 1, 3) := by decide +kernel
theorem dX8_laysRow_124 : decode cX8_laysRow 124 = .ok (.goto (-85), 3) := by decide +kernel
theorem dX8_laysRow_127 : decode cX8_laysRow 127 = .ok (.return_, 1) := by decide +kernel
set_option maxRecDepth 20000 in
theorem ggX8_aspect_X8_sumOf : GoodIn wsX8_aspect wsX8_sumOf := goodIn_r _ [6, 1, 7, 8, 9, 10, 11, 12, 13, 14, 15, 16, 17, 18, 19, 20, 21, 22, 23, 24, 25] (by decide +kernel) (by decide +kernel)
set_option maxRecDepth 20000 in
theorem gX8_aspect_X8_sumOf : GoodIn wsX8_aspect (wsV RX8 110 RX8 yX8_sumOf wsX8_sumOf) := goodIn_app (goodIn_of _ (by decide +kernel)) ggX8_aspect_X8_sumOf
theorem dX8_aspect_0 : decode cX8_aspect 0 = .ok (.aload_n 0, 1) := by decide +kernel
theorem dX8_aspect_1 : decode cX8_aspect 1 = .ok (.iload_n 2, 1) := by decide +kernel
theorem dX8_aspect_2 : decode cX8_aspect 2 = .ok (.iload_n 3, 1) := by decide +kernel
theorem dX8_aspect_3 : decode cX8_aspect 3 = .ok (.invokevirtual 110, 3) := by decide +kernel
theorem dX8_aspect_6 : decode cX8_aspect 6 = .ok (.i2f, 1) := by decide +kernel
theorem dX8_aspect_7 : decode cX8_aspect 7 = .ok (.fload 4, 2) := by decide +kernel
theorem dX8_aspect_9 : decode cX8_aspect 9 = .ok (.fmul, 1) := by decide +kernel
theorem dX8_aspect_10 : decode cX8_aspect 10 = .ok (.iload 5, 2) := by decide +kernel
theorem dX8_aspect_12 : decode cX8_aspect 12 = .ok (.i2f, 1) := by decide +kernel
theorem dX8_aspect_13 : decode cX8_aspect 13 = .ok (.fdiv, 1) := by decide +kernel
theorem dX8_aspect_14 : decode cX8_aspect 14 = .ok (.fstore 6, 2) := by decide +kernel
theorem dX8_aspect_16 : decode cX8_aspect 16 = .ok (.aload_n 0, 1) := by decide +kernel
theorem dX8_aspect_17 : decode cX8_aspect 17 = .ok (.getfield 41, 3) := by decide +kernel
theorem dX8_aspect_20 : decode cX8_aspect 20 = .ok (.iload_n 1, 1) := by decide +kernel
theorem dX8_aspect_21 : decode cX8_aspect 21 = .ok (.iaload, 1) := by decide +kernel
theorem dX8_aspect_22 : decode cX8_aspect 22 = .ok (.i2f, 1) := by decide +kernel
theorem dX8_aspect_23 : decode cX8_aspect 23 = .ok (.fload 4, 2) := by decide +kernel
theorem dX8_aspect_25 : decode cX8_aspect 25 = .ok (.fmul, 1) := by decide +kernel
theorem dX8_aspect_26 : decode cX8_aspect 26 = .ok (.fload 6, 2) := by decide +kernel
theorem dX8_aspect_28 : decode cX8_aspect 28 = .ok (.fdiv, 1) := by decide +kernel
theorem dX8_aspect_29 : decode cX8_aspect 29 = .ok (.fstore 7, 2) := by decide +kernel
theorem dX8_aspect_31 : decode cX8_aspect 31 = .ok (.fload 7, 2) := by decide +kernel
theorem dX8_aspect_33 : decode cX8_aspect 33 = .ok (.fload 6, 2) := by decide +kernel
theorem dX8_aspect_35 : decode cX8_aspect 35 = .ok (.fdiv, 1) := by decide +kernel
theorem dX8_aspect_36 : decode cX8_aspect 36 = .ok (.fstore 8, 2) := by decide +kernel
theorem dX8_aspect_38 : decode cX8_aspect 38 = .ok (.fload 6, 2) := by decide +kernel
theorem dX8_aspect_40 : decode cX8_aspect 40 = .ok (.fload 7, 2) := by decide +kernel
theorem dX8_aspect_42 : decode cX8_aspect 42 = .ok (.fdiv, 1) := by decide +kernel
theorem dX8_aspect_43 : decode cX8_aspect 43 = .ok (.fstore 9, 2) := by decide +kernel
theorem dX8_aspect_45 : decode cX8_aspect 45 = .ok (.fload 8, 2) := by decide +kernel
theorem dX8_aspect_47 : decode cX8_aspect 47 = .ok (.fload 9, 2) := by decide +kernel
theorem dX8_aspect_49 : decode cX8_aspect 49 = .ok (.fcmp .l, 1) := by decide +kernel
theorem dX8_aspect_50 : decode cX8_aspect 50 = .ok (.ifCond .le 8, 3) := by decide +kernel
theorem dX8_aspect_53 : decode cX8_aspect 53 = .ok (.fload 8, 2) := by decide +kernel
theorem dX8_aspect_55 : decode cX8_aspect 55 = .ok (.goto 5, 3) := by decide +kernel
theorem dX8_aspect_58 : decode cX8_aspect 58 = .ok (.fload 9, 2) := by decide +kernel
theorem dX8_aspect_60 : decode cX8_aspect 60 = .ok (.freturn, 1) := by decide +kernel
set_option maxRecDepth 20000 in
theorem ggX8_average_X8_aspect : GoodIn wsX8_average wsX8_aspect := goodIn_r _ [6, 7, 8, 9, 10, 5, 11, 1, 12, 13, 14, 15, 16, 17, 18, 19, 20, 21, 22, 23, 24, 25, 26, 27, 28, 29] (by decide +kernel) (by decide +kernel)
set_option maxRecDepth 20000 in
theorem gX8_average_X8_aspect : GoodIn wsX8_average (wsV RX8 113 RX8 yX8_aspect wsX8_aspect) := goodIn_app (goodIn_of _ (by decide +kernel)) ggX8_average_X8_aspect
theorem dX8_average_0 : decode cX8_average 0 = .ok (.fconst 0, 1) := by decide +kernel
theorem dX8_average_1 : decode cX8_average 1 = .ok (.fstore 5, 2) := by decide +kernel
theorem dX8_average_3 : decode cX8_average 3 = .ok (.iconst 0, 1) := by decide +kernel
theorem dX8_average_4 : decode cX8_average 4 = .ok (.istore 6, 2) := by decide +kernel
theorem dX8_average_6 : decode cX8_average 6 = .ok (.iload 6, 2) := by decide +kernel
theorem dX8_average_8 : decode cX8_average 8 = .ok (.iload_n 2, 1) := by decide +kernel
theorem dX8_average_9 : decode cX8_average 9 = .ok (.if_icmp .ge 32, 3) := by decide +kernel
theorem dX8_average_12 : decode cX8_average 12 = .ok (.fload 5, 2) := by decide +kernel
theorem dX8_average_14 : decode cX8_average 14 = .ok (.aload_n 0, 1) := by decide +kernel
theorem dX8_average_15 : decode cX8_average 15 = .ok (.aload_n 0, 1) := by decide +kernel
theorem dX8_average_16 : decode cX8_average 16 = .ok (.getfield 44, 3) := by decide +kernel
theorem dX8_average_19 : decode cX8_average 19 = .ok (.iload_n 1, 1) := by decide +kernel
theorem dX8_average_20 : decode cX8_average 20 = .ok (.iload 6, 2) := by decide +kernel
theorem dX8_average_22 : decode cX8_average 22 = .ok (.iadd, 1) := by decide +kernel
theorem dX8_average_23 : decode cX8_average 23 = .ok (.iaload, 1) := by decide +kernel
theorem dX8_average_24 : decode cX8_average 24 = .ok (.iload_n 1, 1) := by decide +kernel
theorem dX8_average_25 : decode cX8_average 25 = .ok (.iload_n 2, 1) := by decide +kernel
theorem dX8_average_26 : decode cX8_average 26 = .ok (.fload_n 3, 1) := by decide +kernel
theorem dX8_average_27 : decode cX8_average 27 = .ok (.iload 4, 2) := by decide +kernel
theorem dX8_average_29 : decode cX8_average 29 = .ok (.invokevirtual 113, 3) := by decide +kernel
theorem dX8_average_32 : decode cX8_average 32 = .ok (.fadd, 1) := by decide +kernel
theorem dX8_average_33 : decode cX8_average 33 = .ok (.fstore 5, 2) := by decide +kernel
theorem dX8_average_35 : decode cX8_average 35 = .ok (.iinc 6 1, 3) := by decide +kernel
theorem dX8_average_38 : decode cX8_average 38 = .ok (.goto (-32), 3) := by decide +kernel
theorem dX8_average_41 : decode cX8_average 41 = .ok (.fload 5, 2) := by decide +kernel
theorem dX8_average_43 : decode cX8_average 43 = .ok (.iload_n 2, 1) := by decide +kernel
theorem dX8_average_44 : decode cX8_average 44 = .ok (.i2f, 1) := by decide +kernel
theorem dX8_average_45 : decode cX8_average 45 = .ok (.fdiv, 1) := by decide +kernel
theorem dX8_average_46 : decode cX8_average 46 = .ok (.freturn, 1) := by decide +kernel
set_option maxRecDepth 20000 in
theorem ggX8_worst_X8_aspect : GoodIn wsX8_worst wsX8_aspect := goodIn_r _ [6, 7, 8, 9, 10, 5, 11, 1, 12, 13, 14, 15, 16, 17, 18, 19, 20, 21, 22, 23, 24, 25, 26, 27, 28, 29] (by decide +kernel) (by decide +kernel)
set_option maxRecDepth 20000 in
theorem gX8_worst_X8_aspect : GoodIn wsX8_worst (wsV RX8 113 RX8 yX8_aspect wsX8_aspect) := goodIn_app (goodIn_of _ (by decide +kernel)) ggX8_worst_X8_aspect
theorem dX8_worst_0 : decode cX8_worst 0 = .ok (.fconst 0, 1) := by decide +kernel
theorem dX8_worst_1 : decode cX8_worst 1 = .ok (.fstore 5, 2) := by decide +kernel
theorem dX8_worst_3 : decode cX8_worst 3 = .ok (.iconst 0, 1) := by decide +kernel
theorem dX8_worst_4 : decode cX8_worst 4 = .ok (.istore 6, 2) := by decide +kernel
theorem dX8_worst_6 : decode cX8_worst 6 = .ok (.iload 6, 2) := by decide +kernel
theorem dX8_worst_8 : decode cX8_worst 8 = .ok (.iload_n 2, 1) := by decide +kernel
theorem dX8_worst_9 : decode cX8_worst 9 = .ok (.if_icmp .ge 46, 3) := by decide +kernel
theorem dX8_worst_12 : decode cX8_worst 12 = .ok (.aload_n 0, 1) := by decide +kernel
theorem dX8_worst_13 : decode cX8_worst 13 = .ok (.aload_n 0, 1) := by decide +kernel
theorem dX8_worst_14 : decode cX8_worst 14 = .ok (.getfield 44, 3) := by decide +kernel
theorem dX8_worst_17 : decode cX8_worst 17 = .ok (.iload_n 1, 1) := by decide +kernel
theorem dX8_worst_18 : decode cX8_worst 18 = .ok (.iload 6, 2) := by decide +kernel
theorem dX8_worst_20 : decode cX8_worst 20 = .ok (.iadd, 1) := by decide +kernel
theorem dX8_worst_21 : decode cX8_worst 21 = .ok (.iaload, 1) := by decide +kernel
theorem dX8_worst_22 : decode cX8_worst 22 = .ok (.iload_n 1, 1) := by decide +kernel
theorem dX8_worst_23 : decode cX8_worst 23 = .ok (.iload_n 2, 1) := by decide +kernel
theorem dX8_worst_24 : decode cX8_worst 24 = .ok (.fload_n 3, 1) := by decide +kernel
theorem dX8_worst_25 : decode cX8_worst 25 = .ok (.iload 4, 2) := by decide +kernel
theorem dX8_worst_27 : decode cX8_worst 27 = .ok (.invokevirtual 113, 3) := by decide +kernel
theorem dX8_worst_30 : decode cX8_worst 30 = .ok (.fstore 7, 2) := by decide +kernel
theorem dX8_worst_32 : decode cX8_worst 32 = .ok (.fload 7, 2) := by decide +kernel
theorem dX8_worst_34 : decode cX8_worst 34 = .ok (.fload 5, 2) := by decide +kernel
theorem dX8_worst_36 : decode cX8_worst 36 = .ok (.fcmp .l, 1) := by decide +kernel
theorem dX8_worst_37 : decode cX8_worst 37 = .ok (.ifCond .le 8, 3) := by decide +kernel
theorem dX8_worst_40 : decode cX8_worst 40 = .ok (.fload 7, 2) := by decide +kernel
theorem dX8_worst_42 : decode cX8_worst 42 = .ok (.goto 5, 3) := by decide +kernel
theorem dX8_worst_45 : decode cX8_worst 45 = .ok (.fload 5, 2) := by decide +kernel
theorem dX8_worst_47 : decode cX8_worst 47 = .ok (.fstore 5, 2) := by decide +kernel
theorem dX8_worst_49 : decode cX8_worst 49 = .ok (.iinc 6 1, 3) := by decide +kernel
theorem dX8_worst_52 : decode cX8_worst 52 = .ok (.goto (-46), 3) := by decide +kernel
theorem dX8_worst_55 : decode cX8_worst 55 = .ok (.fload 5, 2) := by decide +kernel
theorem dX8_worst_57 : decode cX8_worst 57 = .ok (.freturn, 1) := by decide +kernel
set_option maxRecDepth 20000 in
theorem ggX8_laysStrips_X8_average : GoodIn wsX8_laysStrips wsX8_average := goodIn_r _ [10, 11, 12, 13, 14, 9, 15, 16, 17, 18, 19, 20, 41, 42, 43, 44, 45, 46, 47, 48, 49, 50, 51, 52, 53, 54, 55, 56, 57, 58] (by decide +kernel) (by decide +kernel)
set_option maxRecDepth 20000 in
theorem gX8_laysStrips_X8_average : GoodIn wsX8_laysStrips (wsV RX8 117 RX8 yX8_average wsX8_average) := goodIn_app (goodIn_of _ (by decide +kernel)) ggX8_laysStrips_X8_average
set_option maxRecDepth 20000 in
theorem ggX8_laysStrips_X8_sumOf : GoodIn wsX8_laysStrips wsX8_sumOf := goodIn_r _ [20, 16, 11, 41, 42, 43, 44, 45, 46, 47, 48, 49, 50, 51, 52, 53, 54, 55, 56, 57, 58] (by decide +kernel) (by decide +kernel)
set_option maxRecDepth 20000 in
theorem gX8_laysStrips_X8_sumOf : GoodIn wsX8_laysStrips (wsV RX8 110 RX8 yX8_sumOf wsX8_sumOf) := goodIn_app (goodIn_of _ (by decide +kernel)) ggX8_laysStrips_X8_sumOf
set_option maxRecDepth 20000 in
theorem ggX8_laysStrips_X8_parts : GoodIn wsX8_laysStrips wsX8_parts := goodIn_r _ [24, 3, 5, 41, 42, 43, 44, 45, 46, 47, 48, 49, 50, 51, 52, 53, 54, 55, 56, 57, 58] (by decide +kernel) (by decide +kernel)
set_option maxRecDepth 20000 in
theorem gX8_laysStrips_X8_parts : GoodIn wsX8_laysStrips (wsV RX8 103 RX8 yX8_parts wsX8_parts) := goodIn_app (goodIn_of _ (by decide +kernel)) ggX8_laysStrips_X8_parts
set_option maxRecDepth 20000 in
theorem ggX8_laysStrips_X8_laysRow : GoodIn wsX8_laysStrips wsX8_laysRow := goodIn_r _ [28, 5, 11, 29, 30, 31, 9, 32, 3, 16, 21, 22, 23, 24, 33, 34, 35, 36, 37, 38, 39, 40, 41, 42, 43, 44, 45, 46, 47, 48, 49, 50, 51, 52, 53, 54, 55, 56, 57, 58] (by decide +kernel) (by decide +kernel)
set_option maxRecDepth 20000 in
theorem gX8_laysStrips_X8_laysRow : GoodIn wsX8_laysStrips (wsV RX8 121 RX8 yX8_laysRow wsX8_laysRow) := goodIn_app (goodIn_of _ (by decide +kernel)) ggX8_laysStrips_X8_laysRow
theorem dX8_laysStrips_0 : decode cX8_laysStrips 0 = .ok (.iload_n 3, 1) := by decide +kernel
theorem dX8_laysStrips_1 : decode cX8_laysStrips 1 = .ok (.iload 4, 2) := by decide +kernel
theorem dX8_laysStrips_3 : decode cX8_laysStrips 3 = .ok (.imul, 1) := by decide +kernel
theorem dX8_laysStrips_4 : decode cX8_laysStrips 4 = .ok (.i2f, 1) := by decide +kernel
theorem dX8_laysStrips_5 : decode cX8_laysStrips 5 = .ok (.iload 5, 2) := by decide +kernel
theorem dX8_laysStrips_7 : decode cX8_laysStrips 7 = .ok (.i2f, 1) := by decide +kernel
theorem dX8_laysStrips_8 : decode cX8_laysStrips 8 = .ok (.fdiv, 1) := by decide +kernel
theorem dX8_laysStrips_9 : decode cX8_laysStrips 9 = .ok (.fstore 6, 2) := by decide +kernel
theorem dX8_laysStrips_11 : decode cX8_laysStrips 11 = .ok (.iconst 1, 1) := by decide +kernel
theorem dX8_laysStrips_12 : decode cX8_laysStrips 12 = .ok (.istore 7, 2) := by decide +kernel
theorem dX8_laysStrips_14 : decode cX8_laysStrips 14 = .ok (.aload_n 0, 1) := by decide +kernel
theorem dX8_laysStrips_15 : decode cX8_laysStrips 15 = .ok (.getfield 47, 3) := by decide +kernel
theorem dX8_laysStrips_18 : decode cX8_laysStrips 18 = .ok (.iconst 0, 1) := by decide +kernel
theorem dX8_laysStrips_19 : decode cX8_laysStrips 19 = .ok (.iconst 0, 1) := by decide +kernel
theorem dX8_laysStrips_20 : decode cX8_laysStrips 20 = .ok (.iastore, 1) := by decide +kernel
theorem dX8_laysStrips_21 : decode cX8_laysStrips 21 = .ok (.iconst 1, 1) := by decide +kernel
theorem dX8_laysStrips_22 : decode cX8_laysStrips 22 = .ok (.istore 8, 2) := by decide +kernel
theorem dX8_laysStrips_24 : decode cX8_laysStrips 24 = .ok (.iload 8, 2) := by decide +kernel
theorem dX8_laysStrips_26 : decode cX8_laysStrips 26 = .ok (.aload_n 0, 1) := by decide +kernel
theorem dX8_laysStrips_27 : decode cX8_laysStrips 27 = .ok (.getfield 96, 3) := by decide +kernel
theorem dX8_laysStrips_30 : decode cX8_laysStrips 30 = .ok (.if_icmp .ge 66, 3) := by decide +kernel
theorem dX8_laysStrips_33 : decode cX8_laysStrips 33 = .ok (.aload_n 0, 1) := by decide +kernel
theorem dX8_laysStrips_34 : decode cX8_laysStrips 34 = .ok (.getfield 47, 3) := by decide +kernel
theorem dX8_laysStrips_37 : decode cX8_laysStrips 37 = .ok (.iload 7, 2) := by decide +kernel
theorem dX8_laysStrips_39 : decode cX8_laysStrips 39 = .ok (.iconst 1, 1) := by decide +kernel
theorem dX8_laysStrips_40 : decode cX8_laysStrips 40 = .ok (.isub, 1) := by decide +kernel
theorem dX8_laysStrips_41 : decode cX8_laysStrips 41 = .ok (.iaload, 1) := by decide +kernel
theorem dX8_laysStrips_42 : decode cX8_laysStrips 42 = .ok (.istore 9, 2) := by decide +kernel
theorem dX8_laysStrips_44 : decode cX8_laysStrips 44 = .ok (.aload_n 0, 1) := by decide +kernel
theorem dX8_laysStrips_45 : decode cX8_laysStrips 45 = .ok (.iload 9, 2) := by decide +kernel
theorem dX8_laysStrips_47 : decode cX8_laysStrips 47 = .ok (.iload 8, 2) := by decide +kernel
theorem dX8_laysStrips_49 : decode cX8_laysStrips 49 = .ok (.iconst 1, 1) := by decide +kernel
theorem dX8_laysStrips_50 : decode cX8_laysStrips 50 = .ok (.iadd, 1) := by decide +kernel
theorem dX8_laysStrips_51 : decode cX8_laysStrips 51 = .ok (.iload 9, 2) := by decide +kernel
theorem dX8_laysStrips_53 : decode cX8_laysStrips 53 = .ok (.isub, 1) := by decide +kernel
theorem dX8_laysStrips_54 : decode cX8_laysStrips 54 = .ok (.fload 6, 2) := by decide +kernel
theorem dX8_laysStrips_56 : decode cX8_laysStrips 56 = .ok (.iload_n 3, 1) := by decide +kernel
theorem dX8_laysStrips_57 : decode cX8_laysStrips 57 = .ok (.invokevirtual 117, 3) := by decide +kernel
theorem dX8_laysStrips_60 : decode cX8_laysStrips 60 = .ok (.aload_n 0, 1) := by decide +kernel
theorem dX8_laysStrips_61 : decode cX8_laysStrips 61 = .ok (.iload 9, 2) := by decide +kernel
theorem dX8_laysStrips_63 : decode cX8_laysStrips 63 = .ok (.iload 8, 2) := by decide +kernel
theorem dX8_laysStrips_65 : decode cX8_laysStrips 65 = .ok (.iload 9, 2) := by decide +kernel
theorem dX8_laysStrips_67 : decode cX8_laysStrips 67 = .ok (.isub, 1) := by decide +kernel
theorem dX8_laysStrips_68 : decode cX8_laysStrips 68 = .ok (.fload 6, 2) := by decide +kernel
theorem dX8_laysStrips_70 : decode cX8_laysStrips 70 = .ok (.iload_n 3, 1) := by decide +kernel
theorem dX8_laysStrips_71 : decode cX8_laysStrips 71 = .ok (.invokevirtual 117, 3) := by decide +kernel
theorem dX8_laysStrips_74 : decode cX8_laysStrips 74 = .ok (.fcmp .g, 1) := by decide +kernel
theorem dX8_laysStrips_75 : decode cX8_laysStrips 75 = .ok (.ifCond .le 15, 3) := by decide +kernel
theorem dX8_laysStrips_78 : decode cX8_laysStrips 78 = .ok (.aload_n 0, 1) := by decide +kernel
theorem dX8_laysStrips_79 : decode cX8_laysStrips 79 = .ok (.getfield 47, 3) := by decide +kernel
theorem dX8_laysStrips_82 : decode cX8_laysStrips 82 = .ok (.iload 7, 2) := by decide +kernel
theorem dX8_laysStrips_84 : decode cX8_laysStrips 84 = .ok (.iload 8, 2) := by decide +kernel
theorem dX8_laysStrips_86 : decode cX8_laysStrips 86 = .ok (.iastore, 1) := by decide +kernel
theorem dX8_laysStrips_87 : decode cX8_laysStrips 87 = .ok (.iinc 7 1, 3) := by decide +kernel
theorem dX8_laysStrips_90 : decode cX8_laysStrips 90 = .ok (.iinc 8 1, 3) := by decide +kernel
theorem dX8_laysStrips_93 : decode cX8_laysStrips 93 = .ok (.goto (-69), 3) := by decide +kernel
theorem dX8_laysStrips_96 : decode cX8_laysStrips 96 = .ok (.aload_n 0, 1) := by decide +kernel
theorem dX8_laysStrips_97 : decode cX8_laysStrips 97 = .ok (.getfield 47, 3) := by decide +kernel
theorem dX8_laysStrips_100 : decode cX8_laysStrips 100 = .ok (.iload 7, 2) := by decide +kernel
theorem dX8_laysStrips_102 : decode cX8_laysStrips 102 = .ok (.aload_n 0, 1) := by decide +kernel
theorem dX8_laysStrips_103 : decode cX8_laysStrips 103 = .ok (.getfield 96, 3) := by decide +kernel
theorem dX8_laysStrips_106 : decode cX8_laysStrips 106 = .ok (.iastore, 1) := by decide +kernel
theorem dX8_laysStrips_107 : decode cX8_laysStrips 107 = .ok (.iconst 0, 1) := by decide +kernel
theorem dX8_laysStrips_108 : decode cX8_laysStrips 108 = .ok (.istore 8, 2) := by decide +kernel
theorem dX8_laysStrips_110 : decode cX8_laysStrips 110 = .ok (.iload 8, 2) := by decide +kernel
theorem dX8_laysStrips_112 : decode cX8_laysStrips 112 = .ok (.iload 7, 2) := by decide +kernel
theorem dX8_laysStrips_114 : decode cX8_laysStrips 114 = .ok (.if_icmp .ge 44, 3) := by decide +kernel
theorem dX8_laysStrips_117 : decode cX8_laysStrips 117 = .ok (.aload_n 0, 1) := by decide +kernel
theorem dX8_laysStrips_118 : decode cX8_laysStrips 118 = .ok (.getfield 19, 3) := by decide +kernel
theorem dX8_laysStrips_121 : decode cX8_laysStrips 121 = .ok (.iload 8, 2) := by decide +kernel
theorem dX8_laysStrips_123 : decode cX8_laysStrips 123 = .ok (.aload_n 0, 1) := by decide +kernel
theorem dX8_laysStrips_124 : decode cX8_laysStrips 124 = .ok (.aload_n 0, 1) := by decide +kernel
theorem dX8_laysStrips_125 : decode cX8_laysStrips 125 = .ok (.getfield 47, 3) := by decide +kernel
theorem dX8_laysStrips_128 : decode cX8_laysStrips 128 = .ok (.iload 8, 2) := by decide +kernel
theorem dX8_laysStrips_130 : decode cX8_laysStrips 130 = .ok (.iaload, 1) := by decide +kernel
theorem dX8_laysStrips_131 : decode cX8_laysStrips 131 = .ok (.aload_n 0, 1) := by decide +kernel
theorem dX8_laysStrips_132 : decode cX8_laysStrips 132 = .ok (.getfield 47, 3) := by decide +kernel
theorem dX8_laysStrips_135 : decode cX8_laysStrips 135 = .ok (.iload 8, 2) := by decide +kernel
theorem dX8_laysStrips_137 : decode cX8_laysStrips 137 = .ok (.iconst 1, 1) := by decide +kernel
theorem dX8_laysStrips_138 : decode cX8_laysStrips 138 = .ok (.iadd, 1) := by decide +kernel
theorem dX8_laysStrips_139 : decode cX8_laysStrips 139 = .ok (.iaload, 1) := by decide +kernel
theorem dX8_laysStrips_140 : decode cX8_laysStrips 140 = .ok (.aload_n 0, 1) := by decide +kernel
theorem dX8_laysStrips_141 : decode cX8_laysStrips 141 = .ok (.getfield 47, 3) := by decide +kernel
theorem dX8_laysStrips_144 : decode cX8_laysStrips 144 = .ok (.iload 8, 2) := by decide +kernel
theorem dX8_laysStrips_146 : decode cX8_laysStrips 146 = .ok (.iaload, 1) := by decide +kernel
theorem dX8_laysStrips_147 : decode cX8_laysStrips 147 = .ok (.isub, 1) := by decide +kernel
theorem dX8_laysStrips_148 : decode cX8_laysStrips 148 = .ok (.invokevirtual 110, 3) := by decide +kernel
theorem dX8_laysStrips_151 : decode cX8_laysStrips 151 = .ok (.iastore, 1) := by decide +kernel
theorem dX8_laysStrips_152 : decode cX8_laysStrips 152 = .ok (.iinc 8 1, 3) := by decide +kernel
theorem dX8_laysStrips_155 : decode cX8_laysStrips 155 = .ok (.goto (-45), 3) := by decide +kernel
theorem dX8_laysStrips_158 : decode cX8_laysStrips 158 = .ok (.aload_n 0, 1) := by decide +kernel
theorem dX8_laysStrips_159 : decode cX8_laysStrips 159 = .ok (.iload 4, 2) := by decide +kernel
theorem dX8_laysStrips_161 : decode cX8_laysStrips 161 = .ok (.iload 7, 2) := by decide +kernel
theorem dX8_laysStrips_163 : decode cX8_laysStrips 163 = .ok (.invokevirtual 103, 3) := by decide +kernel
theorem dX8_laysStrips_166 : decode cX8_laysStrips 166 = .ok (.iconst 0, 1) := by decide +kernel
theorem dX8_laysStrips_167 : decode cX8_laysStrips 167 = .ok (.istore 8, 2) := by decide +kernel
theorem dX8_laysStrips_169 : decode cX8_laysStrips 169 = .ok (.iload 8, 2) := by decide +kernel
theorem dX8_laysStrips_171 : decode cX8_laysStrips 171 = .ok (.iload 7, 2) := by decide +kernel
theorem dX8_laysStrips_173 : decode cX8_laysStrips 173 = .ok (.if_icmp .ge 23, 3) := by decide +kernel
theorem dX8_laysStrips_176 : decode cX8_laysStrips 176 = .ok (.aload_n 0, 1) := by decide +kernel
theorem dX8_laysStrips_177 : decode cX8_laysStrips 177 = .ok (.getfield 50, 3) := by decide +kernel
theorem dX8_laysStrips_180 : decode cX8_laysStrips 180 = .ok (.iload 8, 2) := by decide +kernel
theorem dX8_laysStrips_182 : decode cX8_laysStrips 182 = .ok (.aload_n 0, 1) := by decide +kernel
theorem dX8_laysStrips_183 : decode cX8_laysStrips 183 = .ok (.getfield 22, 3) := by decide +kernel
theorem dX8_laysStrips_186 : decode cX8_laysStrips 186 = .ok (.iload 8, 2) := by decide +kernel
theorem dX8_laysStrips_188 : decode cX8_laysStrips 188 = .ok (.iaload, 1) := by decide +kernel
theorem dX8_laysStrips_189 : decode cX8_laysStrips 189 = .ok (.iastore, 1) := by decide +kernel
theorem dX8_laysStrips_190 : decode cX8_laysStrips 190 = .ok (.iinc 8 1, 3) := by decide +kernel
theorem dX8_laysStrips_193 : decode cX8_laysStrips 193 = .ok (.goto (-24), 3) := by decide +kernel
theorem dX8_laysStrips_196 : decode cX8_laysStrips 196 = .ok (.iload_n 2, 1) := by decide +kernel
theorem dX8_laysStrips_197 : decode cX8_laysStrips 197 = .ok (.istore 8, 2) := by decide +kernel
theorem dX8_laysStrips_199 : decode cX8_laysStrips 199 = .ok (.iconst 0, 1) := by decide +kernel
theorem dX8_laysStrips_200 : decode cX8_laysStrips 200 = .ok (.istore 9, 2) := by decide +kernel
theorem dX8_laysStrips_202 : decode cX8_laysStrips 202 = .ok (.iload 9, 2) := by decide +kernel
theorem dX8_laysStrips_204 : decode cX8_laysStrips 204 = .ok (.iload 7, 2) := by decide +kernel
theorem dX8_laysStrips_206 : decode cX8_laysStrips 206 = .ok (.if_icmp .ge 61, 3) := by decide +kernel
theorem dX8_laysStrips_209 : decode cX8_laysStrips 209 = .ok (.aload_n 0, 1) := by decide +kernel
theorem dX8_laysStrips_210 : decode cX8_laysStrips 210 = .ok (.aload_n 0, 1) := by decide +kernel
theorem dX8_laysStrips_211 : decode cX8_laysStrips 211 = .ok (.getfield 47, 3) := by decide +kernel
theorem dX8_laysStrips_214 : decode cX8_laysStrips 214 = .ok (.iload 9, 2) := by decide +kernel
theorem dX8_laysStrips_216 : decode cX8_laysStrips 216 = .ok (.iaload, 1) := by decide +kernel
theorem dX8_laysStrips_217 : decode cX8_laysStrips 217 = .ok (.aload_n 0, 1) := by decide +kernel
theorem dX8_laysStrips_218 : decode cX8_laysStrips 218 = .ok (.getfield 47, 3) := by decide +kernel
theorem dX8_laysStrips_221 : decode cX8_laysStrips 221 = .ok (.iload 9, 2) := by decide +kernel
theorem dX8_laysStrips_223 : decode cX8_laysStrips 223 = .ok (.iconst 1, 1) := by decide +kernel
theorem dX8_laysStrips_224 : decode cX8_laysStrips 224 = .ok (.iadd, 1) := by decide +kernel
theorem dX8_laysStrips_225 : decode cX8_laysStrips 225 = .ok (.iaload, 1) := by decide +kernel
theorem dX8_laysStrips_226 : decode cX8_laysStrips 226 = .ok (.aload_n 0, 1) := by decide +kernel
theorem dX8_laysStrips_227 : decode cX8_laysStrips 227 = .ok (.getfield 47, 3) := by decide +kernel
theorem dX8_laysStrips_230 : decode cX8_laysStrips 230 = .ok (.iload 9, 2) := by decide +kernel
theorem dX8_laysStrips_232 : decode cX8_laysStrips 232 = .ok (.iaload, 1) := by decide +kernel
theorem dX8_laysStrips_233 : decode cX8_laysStrips 233 = .ok (.isub, 1) := by decide +kernel
theorem dX8_laysStrips_234 : decode cX8_laysStrips 234 = .ok (.iload_n 1, 1) := by decide +kernel
theorem dX8_laysStrips_235 : decode cX8_laysStrips 235 = .ok (.iload 8, 2) := by decide +kernel
theorem dX8_laysStrips_237 : decode cX8_laysStrips 237 = .ok (.iload_n 3, 1) := by decide +kernel
theorem dX8_laysStrips_238 : decode cX8_laysStrips 238 = .ok (.aload_n 0, 1) := by decide +kernel
theorem dX8_laysStrips_239 : decode cX8_laysStrips 239 = .ok (.getfield 50, 3) := by decide +kernel
theorem dX8_laysStrips_242 : decode cX8_laysStrips 242 = .ok (.iload 9, 2) := by decide +kernel
theorem dX8_laysStrips_244 : decode cX8_laysStrips 244 = .ok (.iaload, 1) := by decide +kernel
theorem dX8_laysStrips_245 : decode cX8_laysStrips 245 = .ok (.iconst 1, 1) := by decide +kernel
theorem dX8_laysStrips_246 : decode cX8_laysStrips 246 = .ok (.invokevirtual 121, 3) := by decide +kernel
theorem dX8_laysStrips_249 : decode cX8_laysStrips 249 = .ok (.iload 8, 2) := by decide +kernel
theorem dX8_laysStrips_251 : decode cX8_laysStrips 251 = .ok (.aload_n 0, 1) := by decide +kernel
theorem dX8_laysStrips_252 : decode cX8_laysStrips 252 = .ok (.getfield 50, 3) := by decide +kernel
theorem dX8_laysStrips_255 : decode cX8_laysStrips 255 = .ok (.iload 9, 2) := by decide +kernel
theorem dX8_laysStrips_257 : decode cX8_laysStrips 257 = .ok (.iaload, 1) := by decide +kernel
theorem dX8_laysStrips_258 : decode cX8_laysStrips 258 = .ok (.iadd, 1) := by decide +kernel
theorem dX8_laysStrips_259 : decode cX8_laysStrips 259 = .ok (.istore 8, 2) := by decide +kernel
theorem dX8_laysStrips_261 : decode cX8_laysStrips 261 = .ok (.iinc 9 1, 3) := by decide +kernel
theorem dX8_laysStrips_264 : decode cX8_laysStrips 264 = .ok (.goto (-62), 3) := by decide +kernel
theorem dX8_laysStrips_267 : decode cX8_laysStrips 267 = .ok (.return_, 1) := by decide +kernel
theorem dX8_sorts_0 : decode cX8_sorts 0 = .ok (.iconst 1, 1) := by decide +kernel
theorem dX8_sorts_1 : decode cX8_sorts 1 = .ok (.istore_n 1, 1) := by decide +kernel
theorem dX8_sorts_2 : decode cX8_sorts 2 = .ok (.iload_n 1, 1) := by decide +kernel
theorem dX8_sorts_3 : decode cX8_sorts 3 = .ok (.aload_n 0, 1) := by decide +kernel
theorem dX8_sorts_4 : decode cX8_sorts 4 = .ok (.getfield 96, 3) := by decide +kernel
theorem dX8_sorts_7 : decode cX8_sorts 7 = .ok (.if_icmp .ge 71, 3) := by decide +kernel
theorem dX8_sorts_10 : decode cX8_sorts 10 = .ok (.aload_n 0, 1) := by decide +kernel
theorem dX8_sorts_11 : decode cX8_sorts 11 = .ok (.getfield 44, 3) := by decide +kernel
theorem dX8_sorts_14 : decode cX8_sorts 14 = .ok (.iload_n 1, 1) := by decide +kernel
theorem dX8_sorts_15 : decode cX8_sorts 15 = .ok (.iaload, 1) := by decide +kernel
theorem dX8_sorts_16 : decode cX8_sorts 16 = .ok (.istore_n 2, 1) := by decide +kernel
theorem dX8_sorts_17 : decode cX8_sorts 17 = .ok (.iload_n 1, 1) := by decide +kernel
theorem dX8_sorts_18 : decode cX8_sorts 18 = .ok (.istore_n 3, 1) := by decide +kernel
theorem dX8_sorts_19 : decode cX8_sorts 19 = .ok (.iload_n 3, 1) := by decide +kernel
theorem dX8_sorts_20 : decode cX8_sorts 20 = .ok (.ifCond .le 45, 3) := by decide +kernel
theorem dX8_sorts_23 : decode cX8_sorts 23 = .ok (.aload_n 0, 1) := by decide +kernel
theorem dX8_sorts_24 : decode cX8_sorts 24 = .ok (.getfield 41, 3) := by decide +kernel
theorem dX8_sorts_27 : decode cX8_sorts 27 = .ok (.aload_n 0, 1) := by decide +kernel
theorem dX8_sorts_28 : decode cX8_sorts 28 = .ok (.getfield 44, 3) := by decide +kernel
theorem dX8_sorts_31 : decode cX8_sorts 31 = .ok (.iload_n 3, 1) := by decide +kernel
theorem dX8_sorts_32 : decode cX8_sorts 32 = .ok (.iconst 1, 1) := by decide +kernel
theorem dX8_sorts_33 : decode cX8_sorts 33 = .ok (.isub, 1) := by decide +kernel
theorem dX8_sorts_34 : decode cX8_sorts 34 = .ok (.iaload, 1) := by decide +kernel
theorem dX8_sorts_35 : decode cX8_sorts 35 = .ok (.iaload, 1) := by decide +kernel
theorem dX8_sorts_36 : decode cX8_sorts 36 = .ok (.aload_n 0, 1) := by decide +kernel
theorem dX8_sorts_37 : decode cX8_sorts 37 = .ok (.getfield 41, 3) := by decide +kernel
theorem dX8_sorts_40 : decode cX8_sorts 40 = .ok (.iload_n 2, 1) := by decide +kernel
theorem dX8_sorts_41 : decode cX8_sorts 41 = .ok (.iaload, 1) := by decide +kernel
theorem dX8_sorts_42 : decode cX8_sorts 42 = .ok (.if_icmp .ge 23, 3) := by decide +kernel
theorem dX8_sorts_45 : decode cX8_sorts 45 = .ok (.aload_n 0, 1) := by decide +kernel
theorem dX8_sorts_46 : decode cX8_sorts 46 = .ok (.getfield 44, 3) := by decide +kernel
theorem dX8_sorts_49 : decode cX8_sorts 49 = .ok (.iload_n 3, 1) := by decide +kernel
theorem dX8_sorts_50 : decode cX8_sorts 50 = .ok (.aload_n 0, 1) := by decide +kernel
theorem dX8_sorts_51 : decode cX8_sorts 51 = .ok (.getfield 44, 3) := by decide +kernel
theorem dX8_sorts_54 : decode cX8_sorts 54 = .ok (.iload_n 3, 1) := by decide +kernel
theorem dX8_sorts_55 : decode cX8_sorts 55 = .ok (.iconst 1, 1) := by decide +kernel
theorem dX8_sorts_56 : decode cX8_sorts 56 = .ok (.isub, 1) := by decide +kernel
theorem dX8_sorts_57 : decode cX8_sorts 57 = .ok (.iaload, 1) := by decide +kernel
theorem dX8_sorts_58 : decode cX8_sorts 58 = .ok (.iastore, 1) := by decide +kernel
theorem dX8_sorts_59 : decode cX8_sorts 59 = .ok (.iinc 3 (-1), 3) := by decide +kernel
theorem dX8_sorts_62 : decode cX8_sorts 62 = .ok (.goto (-43), 3) := by decide +kernel
theorem dX8_sorts_65 : decode cX8_sorts 65 = .ok (.aload_n 0, 1) := by decide +kernel
theorem dX8_sorts_66 : decode cX8_sorts 66 = .ok (.getfield 44, 3) := by decide +kernel
theorem dX8_sorts_69 : decode cX8_sorts 69 = .ok (.iload_n 3, 1) := by decide +kernel
theorem dX8_sorts_70 : decode cX8_sorts 70 = .ok (.iload_n 2, 1) := by decide +kernel
theorem dX8_sorts_71 : decode cX8_sorts 71 = .ok (.iastore, 1) := by decide +kernel
theorem dX8_sorts_72 : decode cX8_sorts 72 = .ok (.iinc 1 1, 3) := by decide +kernel
theorem dX8_sorts_75 : decode cX8_sorts 75 = .ok (.goto (-73), 3) := by decide +kernel
theorem dX8_sorts_78 : decode cX8_sorts 78 = .ok (.return_, 1) := by decide +kernel
set_option maxRecDepth 20000 in
theorem ggX8_rowOf_X8_worst : GoodIn wsX8_rowOf wsX8_worst := goodIn_r _ [6, 7, 8, 9, 10, 5, 11, 12, 13, 14, 15, 16, 17, 18, 19, 20, 21, 22, 23, 24, 25, 26, 27, 28, 29, 30, 31, 32, 33, 34] (by decide +kernel) (by decide +kernel)
set_option maxRecDepth 20000 in
theorem gX8_rowOf_X8_worst : GoodIn wsX8_rowOf (wsV RX8 125 RX8 yX8_worst wsX8_worst) := goodIn_app (goodIn_of _ (by decide +kernel)) ggX8_rowOf_X8_worst
theorem dX8_rowOf_0 : decode cX8_rowOf 0 = .ok (.iconst 1, 1) := by decide +kernel
theorem dX8_rowOf_1 : decode cX8_rowOf 1 = .ok (.istore 4, 2) := by decide +kernel
theorem dX8_rowOf_3 : decode cX8_rowOf 3 = .ok (.iload_n 1, 1) := by decide +kernel
theorem dX8_rowOf_4 : decode cX8_rowOf 4 = .ok (.iload 4, 2) := by decide +kernel
theorem dX8_rowOf_6 : decode cX8_rowOf 6 = .ok (.iadd, 1) := by decide +kernel
theorem dX8_rowOf_7 : decode cX8_rowOf 7 = .ok (.aload_n 0, 1) := by decide +kernel
theorem dX8_rowOf_8 : decode cX8_rowOf 8 = .ok (.getfield 96, 3) := by decide +kernel
theorem dX8_rowOf_11 : decode cX8_rowOf 11 = .ok (.if_icmp .ge 33, 3) := by decide +kernel
theorem dX8_rowOf_14 : decode cX8_rowOf 14 = .ok (.aload_n 0, 1) := by decide +kernel
theorem dX8_rowOf_15 : decode cX8_rowOf 15 = .ok (.iload_n 1, 1) := by decide +kernel
theorem dX8_rowOf_16 : decode cX8_rowOf 16 = .ok (.iload 4, 2) := by decide +kernel
theorem dX8_rowOf_18 : decode cX8_rowOf 18 = .ok (.iconst 1, 1) := by decide +kernel
theorem dX8_rowOf_19 : decode cX8_rowOf 19 = .ok (.iadd, 1) := by decide +kernel
theorem dX8_rowOf_20 : decode cX8_rowOf 20 = .ok (.fload_n 2, 1) := by decide +kernel
theorem dX8_rowOf_21 : decode cX8_rowOf 21 = .ok (.iload_n 3, 1) := by decide +kernel
theorem dX8_rowOf_22 : decode cX8_rowOf 22 = .ok (.invokevirtual 125, 3) := by decide +kernel
theorem dX8_rowOf_25 : decode cX8_rowOf 25 = .ok (.aload_n 0, 1) := by decide +kernel
theorem dX8_rowOf_26 : decode cX8_rowOf 26 = .ok (.iload_n 1, 1) := by decide +kernel
theorem dX8_rowOf_27 : decode cX8_rowOf 27 = .ok (.iload 4, 2) := by decide +kernel
theorem dX8_rowOf_29 : decode cX8_rowOf 29 = .ok (.fload_n 2, 1) := by decide +kernel
theorem dX8_rowOf_30 : decode cX8_rowOf 30 = .ok (.iload_n 3, 1) := by decide +kernel
theorem dX8_rowOf_31 : decode cX8_rowOf 31 = .ok (.invokevirtual 125, 3) := by decide +kernel
theorem dX8_rowOf_34 : decode cX8_rowOf 34 = .ok (.fcmp .g, 1) := by decide +kernel
theorem dX8_rowOf_35 : decode cX8_rowOf 35 = .ok (.ifCond .gt 9, 3) := by decide +kernel
theorem dX8_rowOf_38 : decode cX8_rowOf 38 = .ok (.iinc 4 1, 3) := by decide +kernel
theorem dX8_rowOf_41 : decode cX8_rowOf 41 = .ok (.goto (-38), 3) := by decide +kernel
theorem dX8_rowOf_44 : decode cX8_rowOf 44 = .ok (.iload 4, 2) := by decide +kernel
theorem dX8_rowOf_46 : decode cX8_rowOf 46 = .ok (.ireturn, 1) := by decide +kernel
set_option maxRecDepth 20000 in
theorem ggX8_laysSquares_X8_sorts : GoodIn wsX8_laysSquares wsX8_sorts := goodIn_r _ [7, 1, 2, 8, 47, 48, 49, 50, 51, 52, 53, 54, 55, 56, 57, 58, 59, 60, 61, 62, 63, 64] (by decide +kernel) (by decide +kernel)
set_option maxRecDepth 20000 in
theorem gX8_laysSquares_X8_sorts : GoodIn wsX8_laysSquares (wsV RX8 128 RX8 yX8_sorts wsX8_sorts) := goodIn_app (goodIn_of _ (by decide +kernel)) ggX8_laysSquares_X8_sorts
set_option maxRecDepth 20000 in
theorem ggX8_laysSquares_X8_puts : GoodIn wsX8_laysSquares wsX8_puts := goodIn_r _ [12, 13, 14, 15, 16, 47, 48, 49, 50, 51, 52, 53, 54, 55, 56, 57, 58, 59, 60, 61, 62, 63, 64] (by decide +kernel) (by decide +kernel)
set_option maxRecDepth 20000 in
theorem gX8_laysSquares_X8_puts : GoodIn wsX8_laysSquares (wsV RX8 106 RX8 yX8_puts wsX8_puts) := goodIn_app (goodIn_of _ (by decide +kernel)) ggX8_laysSquares_X8_puts
set_option maxRecDepth 20000 in
theorem ggX8_laysSquares_X8_sumOf : GoodIn wsX8_laysSquares wsX8_sumOf := goodIn_r _ [20, 8, 2, 47, 48, 49, 50, 51, 52, 53, 54, 55, 56, 57, 58, 59, 60, 61, 62, 63, 64] (by decide +kernel) (by decide +kernel)
set_option maxRecDepth 20000 in
theorem gX8_laysSquares_X8_sumOf : GoodIn wsX8_laysSquares (wsV RX8 110 RX8 yX8_sumOf wsX8_sumOf) := goodIn_app (goodIn_of _ (by decide +kernel)) ggX8_laysSquares_X8_sumOf
set_option maxRecDepth 20000 in
theorem ggX8_laysSquares_X8_rowOf : GoodIn wsX8_laysSquares wsX8_rowOf := goodIn_r _ [24, 1, 25, 26, 27, 6, 28, 2, 29, 30, 31, 32, 8, 17, 18, 19, 20, 47, 48, 49, 50, 51, 52, 53, 54, 55, 56, 57, 58, 59, 60, 61, 62, 63, 64] (by decide +kernel) (by decide +kernel)
set_option maxRecDepth 20000 in
theorem gX8_laysSquares_X8_rowOf : GoodIn wsX8_laysSquares (wsV RX8 131 RX8 yX8_rowOf wsX8_rowOf) := goodIn_app (goodIn_of _ (by decide +kernel)) ggX8_laysSquares_X8_rowOf
set_option maxRecDepth 20000 in
theorem ggX8_laysSquares_X8_laysRow : GoodIn wsX8_laysSquares wsX8_laysRow := goodIn_r _ [36, 37, 2, 38, 39, 40, 6, 41, 42, 8, 43, 44, 45, 46, 9, 10, 11, 12, 13, 14, 15, 16, 47, 48, 49, 50, 51, 52, 53, 54, 55, 56, 57, 58, 59, 60, 61, 62, 63, 64] (by decide +kernel) (by decide +kernel)
set_option maxRecDepth 20000 in
theorem gX8_laysSquares_X8_laysRow : GoodIn wsX8_laysSquares (wsV RX8 121 RX8 yX8_laysRow wsX8_laysRow) := goodIn_app (goodIn_of _ (by decide +kernel)) ggX8_laysSquares_X8_laysRow
theorem dX8_laysSquares_0 : decode cX8_laysSquares 0 = .ok (.aload_n 0, 1) := by decide +kernel
theorem dX8_laysSquares_1 : decode cX8_laysSquares 1 = .ok (.invokevirtual 128, 3) := by decide +kernel
theorem dX8_laysSquares_4 : decode cX8_laysSquares 4 = .ok (.iload_n 1, 1) := by decide +kernel
theorem dX8_laysSquares_5 : decode cX8_laysSquares 5 = .ok (.istore 5, 2) := by decide +kernel
theorem dX8_laysSquares_7 : decode cX8_laysSquares 7 = .ok (.iload_n 2, 1) := by decide +kernel
theorem dX8_laysSquares_8 : decode cX8_laysSquares 8 = .ok (.istore 6, 2) := by decide +kernel
theorem dX8_laysSquares_10 : decode cX8_laysSquares 10 = .ok (.iload_n 3, 1) := by decide +kernel
theorem dX8_laysSquares_11 : decode cX8_laysSquares 11 = .ok (.istore 7, 2) := by decide +kernel
theorem dX8_laysSquares_13 : decode cX8_laysSquares 13 = .ok (.iload 4, 2) := by decide +kernel
theorem dX8_laysSquares_15 : decode cX8_laysSquares 15 = .ok (.istore 8, 2) := by decide +kernel
theorem dX8_laysSquares_17 : decode cX8_laysSquares 17 = .ok (.iconst 0, 1) := by decide +kernel
theorem dX8_laysSquares_18 : decode cX8_laysSquares 18 = .ok (.istore 9, 2) := by decide +kernel
theorem dX8_laysSquares_20 : decode cX8_laysSquares 20 = .ok (.iload 9, 2) := by decide +kernel
theorem dX8_laysSquares_22 : decode cX8_laysSquares 22 = .ok (.aload_n 0, 1) := by decide +kernel
theorem dX8_laysSquares_23 : decode cX8_laysSquares 23 = .ok (.getfield 96, 3) := by decide +kernel
theorem dX8_laysSquares_26 : decode cX8_laysSquares 26 = .ok (.if_icmp .ge 273, 3) := by decide +kernel
theorem dX8_laysSquares_29 : decode cX8_laysSquares 29 = .ok (.iload 7, 2) := by decide +kernel
theorem dX8_laysSquares_31 : decode cX8_laysSquares 31 = .ok (.ifCond .eq 8, 3) := by decide +kernel
theorem dX8_laysSquares_34 : decode cX8_laysSquares 34 = .ok (.iload 8, 2) := by decide +kernel
theorem dX8_laysSquares_36 : decode cX8_laysSquares 36 = .ok (.ifCond .ne 26, 3) := by decide +kernel
theorem dX8_laysSquares_39 : decode cX8_laysSquares 39 = .ok (.aload_n 0, 1) := by decide +kernel
theorem dX8_laysSquares_40 : decode cX8_laysSquares 40 = .ok (.aload_n 0, 1) := by decide +kernel
theorem dX8_laysSquares_41 : decode cX8_laysSquares 41 = .ok (.getfield 44, 3) := by decide +kernel
theorem dX8_laysSquares_44 : decode cX8_laysSquares 44 = .ok (.iload 9, 2) := by decide +kernel
theorem dX8_laysSquares_46 : decode cX8_laysSquares 46 = .ok (.iaload, 1) := by decide +kernel
theorem dX8_laysSquares_47 : decode cX8_laysSquares 47 = .ok (.iload 5, 2) := by decide +kernel
theorem dX8_laysSquares_49 : decode cX8_laysSquares 49 = .ok (.iload 6, 2) := by decide +kernel
theorem dX8_laysSquares_51 : decode cX8_laysSquares 51 = .ok (.iconst 0, 1) := by decide +kernel
theorem dX8_laysSquares_52 : decode cX8_laysSquares 52 = .ok (.iconst 0, 1) := by decide +kernel
theorem dX8_laysSquares_53 : decode cX8_laysSquares 53 = .ok (.invokevirtual 106, 3) := by decide +kernel
theorem dX8_laysSquares_56 : decode cX8_laysSquares 56 = .ok (.iinc 9 1, 3) := by decide +kernel
theorem dX8_laysSquares_59 : decode cX8_laysSquares 59 = .ok (.goto (-39), 3) := by decide +kernel
theorem dX8_laysSquares_62 : decode cX8_laysSquares 62 = .ok (.aload_n 0, 1) := by decide +kernel
theorem dX8_laysSquares_63 : decode cX8_laysSquares 63 = .ok (.iload 9, 2) := by decide +kernel
theorem dX8_laysSquares_65 : decode cX8_laysSquares 65 = .ok (.aload_n 0, 1) := by decide +kernel
theorem dX8_laysSquares_66 : decode cX8_laysSquares 66 = .ok (.getfield 96, 3) := by decide +kernel
theorem dX8_laysSquares_69 : decode cX8_laysSquares 69 = .ok (.iload 9, 2) := by decide +kernel
theorem dX8_laysSquares_71 : decode cX8_laysSquares 71 = .ok (.isub, 1) := by decide +kernel
theorem dX8_laysSquares_72 : decode cX8_laysSquares 72 = .ok (.invokevirtual 110, 3) := by decide +kernel
theorem dX8_laysSquares_75 : decode cX8_laysSquares 75 = .ok (.istore 10, 2) := by decide +kernel
theorem dX8_laysSquares_77 : decode cX8_laysSquares 77 = .ok (.iload 8, 2) := by decide +kernel
theorem dX8_laysSquares_79 : decode cX8_laysSquares 79 = .ok (.iload 7, 2) := by decide +kernel
theorem dX8_laysSquares_81 : decode cX8_laysSquares 81 = .ok (.if_icmp .gt 7, 3) := by decide +kernel
theorem dX8_laysSquares_84 : decode cX8_laysSquares 84 = .ok (.iconst 1, 1) := by decide +kernel
theorem dX8_laysSquares_85 : decode cX8_laysSquares 85 = .ok (.goto 4, 3) := by decide +kernel
theorem dX8_laysSquares_88 : decode cX8_laysSquares 88 = .ok (.iconst 0, 1) := by decide +kernel
theorem dX8_laysSquares_89 : decode cX8_laysSquares 89 = .ok (.istore 11, 2) := by decide +kernel
theorem dX8_laysSquares_91 : decode cX8_laysSquares 91 = .ok (.iload 11, 2) := by decide +kernel
theorem dX8_laysSquares_93 : decode cX8_laysSquares 93 = .ok (.ifCond .eq 8, 3) := by decide +kernel
theorem dX8_laysSquares_96 : decode cX8_laysSquares 96 = .ok (.iload 8, 2) := by decide +kernel
theorem dX8_laysSquares_98 : decode cX8_laysSquares 98 = .ok (.goto 5, 3) := by decide +kernel
theorem dX8_laysSquares_101 : decode cX8_laysSquares 101 = .ok (.iload 7, 2) := by decide +kernel
theorem dX8_laysSquares_103 : decode cX8_laysSquares 103 = .ok (.istore 12, 2) := by decide +kernel
theorem dX8_laysSquares_105 : decode cX8_laysSquares 105 = .ok (.iload 11, 2) := by decide +kernel
theorem dX8_laysSquares_107 : decode cX8_laysSquares 107 = .ok (.ifCond .eq 8, 3) := by decide +kernel
theorem dX8_laysSquares_110 : decode cX8_laysSquares 110 = .ok (.iload 7, 2) := by decide +kernel
theorem dX8_laysSquares_112 : decode cX8_laysSquares 112 = .ok (.goto 5, 3) := by decide +kernel
theorem dX8_laysSquares_115 : decode cX8_laysSquares 115 = .ok (.iload 8, 2) := by decide +kernel
theorem dX8_laysSquares_117 : decode cX8_laysSquares 117 = .ok (.istore 13, 2) := by decide +kernel
theorem dX8_laysSquares_119 : decode cX8_laysSquares 119 = .ok (.aload_n 0, 1) := by decide +kernel
theorem dX8_laysSquares_120 : decode cX8_laysSquares 120 = .ok (.iload 9, 2) := by decide +kernel
theorem dX8_laysSquares_122 : decode cX8_laysSquares 122 = .ok (.iload 7, 2) := by decide +kernel
theorem dX8_laysSquares_124 : decode cX8_laysSquares 124 = .ok (.iload 8, 2) := by decide +kernel
theorem dX8_laysSquares_126 : decode cX8_laysSquares 126 = .ok (.imul, 1) := by decide +kernel
theorem dX8_laysSquares_127 : decode cX8_laysSquares 127 = .ok (.i2f, 1) := by decide +kernel
theorem dX8_laysSquares_128 : decode cX8_laysSquares 128 = .ok (.iload 10, 2) := by decide +kernel
theorem dX8_laysSquares_130 : decode cX8_laysSquares 130 = .ok (.i2f, 1) := by decide +kernel
theorem dX8_laysSquares_131 : decode cX8_laysSquares 131 = .ok (.fdiv, 1) := by decide +kernel
theorem dX8_laysSquares_132 : decode cX8_laysSquares 132 = .ok (.iload 12, 2) := by decide +kernel
theorem dX8_laysSquares_134 : decode cX8_laysSquares 134 = .ok (.invokevirtual 131, 3) := by decide +kernel
theorem dX8_laysSquares_137 : decode cX8_laysSquares 137 = .ok (.istore 14, 2) := by decide +kernel
theorem dX8_laysSquares_139 : decode cX8_laysSquares 139 = .ok (.iload 9, 2) := by decide +kernel
theorem dX8_laysSquares_141 : decode cX8_laysSquares 141 = .ok (.iload 14, 2) := by decide +kernel
theorem dX8_laysSquares_143 : decode cX8_laysSquares 143 = .ok (.iadd, 1) := by decide +kernel
theorem dX8_laysSquares_144 : decode cX8_laysSquares 144 = .ok (.aload_n 0, 1) := by decide +kernel
theorem dX8_laysSquares_145 : decode cX8_laysSquares 145 = .ok (.getfield 96, 3) := by decide +kernel
theorem dX8_laysSquares_148 : decode cX8_laysSquares 148 = .ok (.if_icmp .ne 8, 3) := by decide +kernel
theorem dX8_laysSquares_151 : decode cX8_laysSquares 151 = .ok (.iload 13, 2) := by decide +kernel
theorem dX8_laysSquares_153 : decode cX8_laysSquares 153 = .ok (.goto 24, 3) := by decide +kernel
theorem dX8_laysSquares_156 : decode cX8_laysSquares 156 = .ok (.iconst 2, 1) := by decide +kernel
theorem dX8_laysSquares_157 : decode cX8_laysSquares 157 = .ok (.aload_n 0, 1) := by decide +kernel
theorem dX8_laysSquares_158 : decode cX8_laysSquares 158 = .ok (.iload 9, 2) := by decide +kernel
theorem dX8_laysSquares_160 : decode cX8_laysSquares 160 = .ok (.iload 14, 2) := by decide +kernel
theorem dX8_laysSquares_162 : decode cX8_laysSquares 162 = .ok (.invokevirtual 110, 3) := by decide +kernel
theorem dX8_laysSquares_165 : decode cX8_laysSquares 165 = .ok (.imul, 1) := by decide +kernel
theorem dX8_laysSquares_166 : decode cX8_laysSquares 166 = .ok (.iload 13, 2) := by decide +kernel
theorem dX8_laysSquares_168 : decode cX8_laysSquares 168 = .ok (.imul, 1) := by decide +kernel
theorem dX8_laysSquares_169 : decode cX8_laysSquares 169 = .ok (.iload 10, 2) := by decide +kernel
theorem dX8_laysSquares_171 : decode cX8_laysSquares 171 = .ok (.iadd, 1) := by decide +kernel
theorem dX8_laysSquares_172 : decode cX8_laysSquares 172 = .ok (.iconst 2, 1) := by decide +kernel
theorem dX8_laysSquares_173 : decode cX8_laysSquares 173 = .ok (.iload 10, 2) := by decide +kernel
theorem dX8_laysSquares_175 : decode cX8_laysSquares 175 = .ok (.imul, 1) := by decide +kernel
theorem dX8_laysSquares_176 : decode cX8_laysSquares 176 = .ok (.idiv, 1) := by decide +kernel
theorem dX8_laysSquares_177 : decode cX8_laysSquares 177 = .ok (.istore 15, 2) := by decide +kernel
theorem dX8_laysSquares_179 : decode cX8_laysSquares 179 = .ok (.aload_n 0, 1) := by decide +kernel
theorem dX8_laysSquares_180 : decode cX8_laysSquares 180 = .ok (.iload 9, 2) := by decide +kernel
theorem dX8_laysSquares_182 : decode cX8_laysSquares 182 = .ok (.iload 14, 2) := by decide +kernel
theorem dX8_laysSquares_184 : decode cX8_laysSquares 184 = .ok (.iload 5, 2) := by decide +kernel
theorem dX8_laysSquares_186 : decode cX8_laysSquares 186 = .ok (.iload 6, 2) := by decide +kernel
theorem dX8_laysSquares_188 : decode cX8_laysSquares 188 = .ok (.iload 11, 2) := by decide +kernel
theorem dX8_laysSquares_190 : decode cX8_laysSquares 190 = .ok (.ifCond .eq 8, 3) := by decide +kernel
theorem dX8_laysSquares_193 : decode cX8_laysSquares 193 = .ok (.iload 15, 2) := by decide +kernel
theorem dX8_laysSquares_195 : decode cX8_laysSquares 195 = .ok (.goto 5, 3) := by decide +kernel
theorem dX8_laysSquares_198 : decode cX8_laysSquares 198 = .ok (.iload 7, 2) := by decide +kernel
theorem dX8_laysSquares_200 : decode cX8_laysSquares 200 = .ok (.iload 11, 2) := by decide +kernel
theorem dX8_laysSquares_202 : decode cX8_laysSquares 202 = .ok (.ifCond .eq 8, 3) := by decide +kernel
theorem dX8_laysSquares_205 : decode cX8_laysSquares 205 = .ok (.iload 8, 2) := by decide +kernel
theorem dX8_laysSquares_207 : decode cX8_laysSquares 207 = .ok (.goto 5, 3) := by decide +kernel
theorem dX8_laysSquares_210 : decode cX8_laysSquares 210 = .ok (.iload 15, 2) := by decide +kernel
theorem dX8_laysSquares_212 : decode cX8_laysSquares 212 = .ok (.iload 11, 2) := by decide +kernel
theorem dX8_laysSquares_214 : decode cX8_laysSquares 214 = .ok (.ifCond .ne 7, 3) := by decide +kernel
theorem dX8_laysSquares_217 : decode cX8_laysSquares 217 = .ok (.iconst 1, 1) := by decide +kernel
theorem dX8_laysSquares_218 : decode cX8_laysSquares 218 = .ok (.goto 4, 3) := by decide +kernel
theorem dX8_laysSquares_221 : decode cX8_laysSquares 221 = .ok (.iconst 0, 1) := by decide +kernel
theorem dX8_laysSquares_222 : decode cX8_laysSquares 222 = .ok (.invokevirtual 121, 3) := by decide +kernel
theorem dX8_laysSquares_225 : decode cX8_laysSquares 225 = .ok (.iload 5, 2) := by decide +kernel
theorem dX8_laysSquares_227 : decode cX8_laysSquares 227 = .ok (.iload 11, 2) := by decide +kernel
theorem dX8_laysSquares_229 : decode cX8_laysSquares 229 = .ok (.ifCond .eq 8, 3) := by decide +kernel
theorem dX8_laysSquares_232 : decode cX8_laysSquares 232 = .ok (.iload 15, 2) := by decide +kernel
theorem dX8_laysSquares_234 : decode cX8_laysSquares 234 = .ok (.goto 4, 3) := by decide +kernel
theorem dX8_laysSquares_237 : decode cX8_laysSquares 237 = .ok (.iconst 0, 1) := by decide +kernel
theorem dX8_laysSquares_238 : decode cX8_laysSquares 238 = .ok (.iadd, 1) := by decide +kernel
theorem dX8_laysSquares_239 : decode cX8_laysSquares 239 = .ok (.istore 5, 2) := by decide +kernel
theorem dX8_laysSquares_241 : decode cX8_laysSquares 241 = .ok (.iload 6, 2) := by decide +kernel
theorem dX8_laysSquares_243 : decode cX8_laysSquares 243 = .ok (.iload 11, 2) := by decide +kernel
theorem dX8_laysSquares_245 : decode cX8_laysSquares 245 = .ok (.ifCond .eq 7, 3) := by decide +kernel
theorem dX8_laysSquares_248 : decode cX8_laysSquares 248 = .ok (.iconst 0, 1) := by decide +kernel
theorem dX8_laysSquares_249 : decode cX8_laysSquares 249 = .ok (.goto 5, 3) := by decide +kernel
theorem dX8_laysSquares_252 : decode cX8_laysSquares 252 = .ok (.iload 15, 2) := by decide +kernel
theorem dX8_laysSquares_254 : decode cX8_laysSquares 254 = .ok (.iadd, 1) := by decide +kernel
theorem dX8_laysSquares_255 : decode cX8_laysSquares 255 = .ok (.istore 6, 2) := by decide +kernel
theorem dX8_laysSquares_257 : decode cX8_laysSquares 257 = .ok (.iload 7, 2) := by decide +kernel
theorem dX8_laysSquares_259 : decode cX8_laysSquares 259 = .ok (.iload 11, 2) := by decide +kernel
theorem dX8_laysSquares_261 : decode cX8_laysSquares 261 = .ok (.ifCond .eq 8, 3) := by decide +kernel
theorem dX8_laysSquares_264 : decode cX8_laysSquares 264 = .ok (.iload 15, 2) := by decide +kernel
theorem dX8_laysSquares_266 : decode cX8_laysSquares 266 = .ok (.goto 4, 3) := by decide +kernel
theorem dX8_laysSquares_269 : decode cX8_laysSquares 269 = .ok (.iconst 0, 1) := by decide +kernel
theorem dX8_laysSquares_270 : decode cX8_laysSquares 270 = .ok (.isub, 1) := by decide +kernel
theorem dX8_laysSquares_271 : decode cX8_laysSquares 271 = .ok (.istore 7, 2) := by decide +kernel
theorem dX8_laysSquares_273 : decode cX8_laysSquares 273 = .ok (.iload 8, 2) := by decide +kernel
theorem dX8_laysSquares_275 : decode cX8_laysSquares 275 = .ok (.iload 11, 2) := by decide +kernel
theorem dX8_laysSquares_277 : decode cX8_laysSquares 277 = .ok (.ifCond .eq 7, 3) := by decide +kernel
theorem dX8_laysSquares_280 : decode cX8_laysSquares 280 = .ok (.iconst 0, 1) := by decide +kernel
theorem dX8_laysSquares_281 : decode cX8_laysSquares 281 = .ok (.goto 5, 3) := by decide +kernel
theorem dX8_laysSquares_284 : decode cX8_laysSquares 284 = .ok (.iload 15, 2) := by decide +kernel
theorem dX8_laysSquares_286 : decode cX8_laysSquares 286 = .ok (.isub, 1) := by decide +kernel
theorem dX8_laysSquares_287 : decode cX8_laysSquares 287 = .ok (.istore 8, 2) := by decide +kernel
theorem dX8_laysSquares_289 : decode cX8_laysSquares 289 = .ok (.iload 9, 2) := by decide +kernel
theorem dX8_laysSquares_291 : decode cX8_laysSquares 291 = .ok (.iload 14, 2) := by decide +kernel
theorem dX8_laysSquares_293 : decode cX8_laysSquares 293 = .ok (.iadd, 1) := by decide +kernel
theorem dX8_laysSquares_294 : decode cX8_laysSquares 294 = .ok (.istore 9, 2) := by decide +kernel
theorem dX8_laysSquares_296 : decode cX8_laysSquares 296 = .ok (.goto (-276), 3) := by decide +kernel
theorem dX8_laysSquares_299 : decode cX8_laysSquares 299 = .ok (.return_, 1) := by decide +kernel
set_option maxRecDepth 20000 in
theorem ggX8_laysUnder_X8_laysChildren : GoodIn wsX8_laysUnder wsX8_laysChildren := goodIn_r _ [14, 7, 2, 8, 67, 68, 69, 70, 71, 72, 73, 74, 75, 76, 77, 78, 79, 80, 81, 82, 83, 84] (by decide +kernel) (by decide +kernel)
set_option maxRecDepth 20000 in
theorem gX8_laysUnder_X8_laysChildren : GoodIn wsX8_laysUnder (wsV RX8 135 RX8 yX8_laysChildren wsX8_laysChildren) := goodIn_app (goodIn_of _ (by decide +kernel)) ggX8_laysUnder_X8_laysChildren
set_option maxRecDepth 20000 in
theorem ggX8_laysUnder_X8_puts : GoodIn wsX8_laysUnder wsX8_puts := goodIn_r _ [18, 1, 3, 4, 5, 67, 68, 69, 70, 71, 72, 73, 74, 75, 76, 77, 78, 79, 80, 81, 82, 83, 84] (by decide +kernel) (by decide +kernel)
set_option maxRecDepth 20000 in
theorem gX8_laysUnder_X8_puts : GoodIn wsX8_laysUnder (wsV RX8 106 RX8 yX8_puts wsX8_puts) := goodIn_app (goodIn_of _ (by decide +kernel)) ggX8_laysUnder_X8_puts
set_option maxRecDepth 20000 in
theorem ggX8_laysUnder_X8_laysRow : GoodIn wsX8_laysUnder wsX8_laysRow := goodIn_r _ [22, 23, 8, 24, 25, 26, 13, 27, 28, 9, 29, 30, 31, 32, 15, 16, 17, 18, 1, 3, 4, 5, 67, 68, 69, 70, 71, 72, 73, 74, 75, 76, 77, 78, 79, 80, 81, 82, 83, 84] (by decide +kernel) (by decide +kernel)
set_option maxRecDepth 20000 in
theorem gX8_laysUnder_X8_laysRow : GoodIn wsX8_laysUnder (wsV RX8 121 RX8 yX8_laysRow wsX8_laysRow) := goodIn_app (goodIn_of _ (by decide +kernel)) ggX8_laysUnder_X8_laysRow
set_option maxRecDepth 20000 in
theorem ggX8_laysUnder_X8_laysStrips : GoodIn wsX8_laysUnder wsX8_laysStrips := goodIn_r _ [36, 37, 7, 28, 38, 23, 39, 40, 41, 13, 42, 8, 43, 44, 45, 46, 9, 47, 48, 49, 50, 29, 30, 31, 32, 19, 20, 21, 22, 24, 25, 26, 27, 15, 16, 17, 18, 1, 3, 4, 5, 67, 68, 69, 70, 71, 72, 73, 74, 75, 76, 77, 78, 79, 80, 81, 82, 83, 84] (by decide +kernel) (by decide +kernel)
set_option maxRecDepth 20000 in
theorem gX8_laysUnder_X8_laysStrips : GoodIn wsX8_laysUnder (wsV RX8 139 RX8 yX8_laysStrips wsX8_laysStrips) := goodIn_app (goodIn_of _ (by decide +kernel)) ggX8_laysUnder_X8_laysStrips
set_option maxRecDepth 20000 in
theorem ggX8_laysUnder_X8_laysSquares : GoodIn wsX8_laysUnder wsX8_laysSquares := goodIn_r _ [54, 7, 8, 55, 56, 57, 13, 58, 9, 15, 16, 17, 18, 1, 3, 4, 5, 47, 48, 49, 50, 59, 60, 61, 62, 63, 64, 65, 66, 43, 44, 45, 46, 19, 20, 21, 22, 23, 24, 25, 26, 27, 28, 29, 30, 31, 32, 67, 68, 69, 70, 71, 72, 73, 74, 75, 76, 77, 78, 79, 80, 81, 82, 83, 84] (by decide +kernel) (by decide +kernel)
set_option maxRecDepth 20000 in
theorem gX8_laysUnder_X8_laysSquares : GoodIn wsX8_laysUnder (wsV RX8 142 RX8 yX8_laysSquares wsX8_laysSquares) := goodIn_app (goodIn_of _ (by decide +kernel)) ggX8_laysUnder_X8_laysSquares
theorem dX8_laysUnder_0 : decode cX8_laysUnder 0 = .ok (.aload_n 0, 1) := by decide +kernel
theorem dX8_laysUnder_1 : decode cX8_laysUnder 1 = .ok (.iload_n 1, 1) := by decide +kernel
theorem dX8_laysUnder_2 : decode cX8_laysUnder 2 = .ok (.invokevirtual 135, 3) := by decide +kernel
theorem dX8_laysUnder_5 : decode cX8_laysUnder 5 = .ok (.aload_n 0, 1) := by decide +kernel
theorem dX8_laysUnder_6 : decode cX8_laysUnder 6 = .ok (.getfield 25, 3) := by decide +kernel
theorem dX8_laysUnder_9 : decode cX8_laysUnder 9 = .ok (.iload_n 1, 1) := by decide +kernel
theorem dX8_laysUnder_10 : decode cX8_laysUnder 10 = .ok (.iaload, 1) := by decide +kernel
theorem dX8_laysUnder_11 : decode cX8_laysUnder 11 = .ok (.aload_n 0, 1) := by decide +kernel
theorem dX8_laysUnder_12 : decode cX8_laysUnder 12 = .ok (.getfield 7, 3) := by decide +kernel
theorem dX8_laysUnder_15 : decode cX8_laysUnder 15 = .ok (.iconst 3, 1) := by decide +kernel
theorem dX8_laysUnder_16 : decode cX8_laysUnder 16 = .ok (.iaload, 1) := by decide +kernel
theorem dX8_laysUnder_17 : decode cX8_laysUnder 17 = .ok (.iadd, 1) := by decide +kernel
theorem dX8_laysUnder_18 : decode cX8_laysUnder 18 = .ok (.istore_n 3, 1) := by decide +kernel
theorem dX8_laysUnder_19 : decode cX8_laysUnder 19 = .ok (.aload_n 0, 1) := by decide +kernel
theorem dX8_laysUnder_20 : decode cX8_laysUnder 20 = .ok (.getfield 28, 3) := by decide +kernel
theorem dX8_laysUnder_23 : decode cX8_laysUnder 23 = .ok (.iload_n 1, 1) := by decide +kernel
theorem dX8_laysUnder_24 : decode cX8_laysUnder 24 = .ok (.iaload, 1) := by decide +kernel
theorem dX8_laysUnder_25 : decode cX8_laysUnder 25 = .ok (.aload_n 0, 1) := by decide +kernel
theorem dX8_laysUnder_26 : decode cX8_laysUnder 26 = .ok (.getfield 7, 3) := by decide +kernel
theorem dX8_laysUnder_29 : decode cX8_laysUnder 29 = .ok (.iconst 3, 1) := by decide +kernel
theorem dX8_laysUnder_30 : decode cX8_laysUnder 30 = .ok (.iaload, 1) := by decide +kernel
theorem dX8_laysUnder_31 : decode cX8_laysUnder 31 = .ok (.iadd, 1) := by decide +kernel
theorem dX8_laysUnder_32 : decode cX8_laysUnder 32 = .ok (.istore 4, 2) := by decide +kernel
theorem dX8_laysUnder_34 : decode cX8_laysUnder 34 = .ok (.aload_n 0, 1) := by decide +kernel
theorem dX8_laysUnder_35 : decode cX8_laysUnder 35 = .ok (.getfield 31, 3) := by decide +kernel
theorem dX8_laysUnder_38 : decode cX8_laysUnder 38 = .ok (.iload_n 1, 1) := by decide +kernel
theorem dX8_laysUnder_39 : decode cX8_laysUnder 39 = .ok (.iaload, 1) := by decide +kernel
theorem dX8_laysUnder_40 : decode cX8_laysUnder 40 = .ok (.iconst 2, 1) := by decide +kernel
theorem dX8_laysUnder_41 : decode cX8_laysUnder 41 = .ok (.aload_n 0, 1) := by decide +kernel
theorem dX8_laysUnder_42 : decode cX8_laysUnder 42 = .ok (.getfield 7, 3) := by decide +kernel
theorem dX8_laysUnder_45 : decode cX8_laysUnder 45 = .ok (.iconst 3, 1) := by decide +kernel
theorem dX8_laysUnder_46 : decode cX8_laysUnder 46 = .ok (.iaload, 1) := by decide +kernel
theorem dX8_laysUnder_47 : decode cX8_laysUnder 47 = .ok (.imul, 1) := by decide +kernel
theorem dX8_laysUnder_48 : decode cX8_laysUnder 48 = .ok (.isub, 1) := by decide +kernel
theorem dX8_laysUnder_49 : decode cX8_laysUnder 49 = .ok (.istore 5, 2) := by decide +kernel
theorem dX8_laysUnder_51 : decode cX8_laysUnder 51 = .ok (.aload_n 0, 1) := by decide +kernel
theorem dX8_laysUnder_52 : decode cX8_laysUnder 52 = .ok (.getfield 34, 3) := by decide +kernel
theorem dX8_laysUnder_55 : decode cX8_laysUnder 55 = .ok (.iload_n 1, 1) := by decide +kernel
theorem dX8_laysUnder_56 : decode cX8_laysUnder 56 = .ok (.iaload, 1) := by decide +kernel
theorem dX8_laysUnder_57 : decode cX8_laysUnder 57 = .ok (.iconst 2, 1) := by decide +kernel
theorem dX8_laysUnder_58 : decode cX8_laysUnder 58 = .ok (.aload_n 0, 1) := by decide +kernel
theorem dX8_laysUnder_59 : decode cX8_laysUnder 59 = .ok (.getfield 7, 3) := by decide +kernel
theorem dX8_laysUnder_62 : decode cX8_laysUnder 62 = .ok (.iconst 3, 1) := by decide +kernel
theorem dX8_laysUnder_63 : decode cX8_laysUnder 63 = .ok (.iaload, 1) := by decide +kernel
theorem dX8_laysUnder_64 : decode cX8_laysUnder 64 = .ok (.imul, 1) := by decide +kernel
theorem dX8_laysUnder_65 : decode cX8_laysUnder 65 = .ok (.isub, 1) := by decide +kernel
theorem dX8_laysUnder_66 : decode cX8_laysUnder 66 = .ok (.istore 6, 2) := by decide +kernel
theorem dX8_laysUnder_68 : decode cX8_laysUnder 68 = .ok (.aload_n 0, 1) := by decide +kernel
theorem dX8_laysUnder_69 : decode cX8_laysUnder 69 = .ok (.getfield 37, 3) := by decide +kernel
theorem dX8_laysUnder_72 : decode cX8_laysUnder 72 = .ok (.iload_n 1, 1) := by decide +kernel
theorem dX8_laysUnder_73 : decode cX8_laysUnder 73 = .ok (.baload, 1) := by decide +kernel
theorem dX8_laysUnder_74 : decode cX8_laysUnder 74 = .ok (.ifCond .ne 15, 3) := by decide +kernel
theorem dX8_laysUnder_77 : decode cX8_laysUnder 77 = .ok (.iload 5, 2) := by decide +kernel
theorem dX8_laysUnder_79 : decode cX8_laysUnder 79 = .ok (.iconst 1, 1) := by decide +kernel
theorem dX8_laysUnder_80 : decode cX8_laysUnder 80 = .ok (.if_icmp .lt 9, 3) := by decide +kernel
theorem dX8_laysUnder_83 : decode cX8_laysUnder 83 = .ok (.iload 6, 2) := by decide +kernel
theorem dX8_laysUnder_85 : decode cX8_laysUnder 85 = .ok (.iconst 1, 1) := by decide +kernel
theorem dX8_laysUnder_86 : decode cX8_laysUnder 86 = .ok (.if_icmp .ge 50, 3) := by decide +kernel
theorem dX8_laysUnder_89 : decode cX8_laysUnder 89 = .ok (.iconst 0, 1) := by decide +kernel
theorem dX8_laysUnder_90 : decode cX8_laysUnder 90 = .ok (.istore 7, 2) := by decide +kernel
theorem dX8_laysUnder_92 : decode cX8_laysUnder 92 = .ok (.iload 7, 2) := by decide +kernel
theorem dX8_laysUnder_94 : decode cX8_laysUnder 94 = .ok (.aload_n 0, 1) := by decide +kernel
theorem dX8_laysUnder_95 : decode cX8_laysUnder 95 = .ok (.getfield 96, 3) := by decide +kernel
theorem dX8_laysUnder_98 : decode cX8_laysUnder 98 = .ok (.if_icmp .ge 37, 3) := by decide +kernel
theorem dX8_laysUnder_101 : decode cX8_laysUnder 101 = .ok (.aload_n 0, 1) := by decide +kernel
theorem dX8_laysUnder_102 : decode cX8_laysUnder 102 = .ok (.aload_n 0, 1) := by decide +kernel
theorem dX8_laysUnder_103 : decode cX8_laysUnder 103 = .ok (.getfield 44, 3) := by decide +kernel
theorem dX8_laysUnder_106 : decode cX8_laysUnder 106 = .ok (.iload 7, 2) := by decide +kernel
theorem dX8_laysUnder_108 : decode cX8_laysUnder 108 = .ok (.iaload, 1) := by decide +kernel
theorem dX8_laysUnder_109 : decode cX8_laysUnder 109 = .ok (.iconst 0, 1) := by decide +kernel
theorem dX8_laysUnder_110 : decode cX8_laysUnder 110 = .ok (.iconst 0, 1) := by decide +kernel
theorem dX8_laysUnder_111 : decode cX8_laysUnder 111 = .ok (.iconst 0, 1) := by decide +kernel
theorem dX8_laysUnder_112 : decode cX8_laysUnder 112 = .ok (.iconst 0, 1) := by decide +kernel
theorem dX8_laysUnder_113 : decode cX8_laysUnder 113 = .ok (.invokevirtual 106, 3) := by decide +kernel
theorem dX8_laysUnder_116 : decode cX8_laysUnder 116 = .ok (.aload_n 0, 1) := by decide +kernel
theorem dX8_laysUnder_117 : decode cX8_laysUnder 117 = .ok (.getfield 37, 3) := by decide +kernel
theorem dX8_laysUnder_120 : decode cX8_laysUnder 120 = .ok (.aload_n 0, 1) := by decide +kernel
theorem dX8_laysUnder_121 : decode cX8_laysUnder 121 = .ok (.getfield 44, 3) := by decide +kernel
theorem dX8_laysUnder_124 : decode cX8_laysUnder 124 = .ok (.iload 7, 2) := by decide +kernel
theorem dX8_laysUnder_126 : decode cX8_laysUnder 126 = .ok (.iaload, 1) := by decide +kernel
theorem dX8_laysUnder_127 : decode cX8_laysUnder 127 = .ok (.iconst 1, 1) := by decide +kernel
theorem dX8_laysUnder_128 : decode cX8_laysUnder 128 = .ok (.bastore, 1) := by decide +kernel
theorem dX8_laysUnder_129 : decode cX8_laysUnder 129 = .ok (.iinc 7 1, 3) := by decide +kernel
theorem dX8_laysUnder_132 : decode cX8_laysUnder 132 = .ok (.goto (-40), 3) := by decide +kernel
theorem dX8_laysUnder_135 : decode cX8_laysUnder 135 = .ok (.return_, 1) := by decide +kernel
theorem dX8_laysUnder_136 : decode cX8_laysUnder 136 = .ok (.iconst 0, 1) := by decide +kernel
theorem dX8_laysUnder_137 : decode cX8_laysUnder 137 = .ok (.istore 7, 2) := by decide +kernel
theorem dX8_laysUnder_139 : decode cX8_laysUnder 139 = .ok (.iload 7, 2) := by decide +kernel
theorem dX8_laysUnder_141 : decode cX8_laysUnder 141 = .ok (.aload_n 0, 1) := by decide +kernel
theorem dX8_laysUnder_142 : decode cX8_laysUnder 142 = .ok (.getfield 96, 3) := by decide +kernel
theorem dX8_laysUnder_145 : decode cX8_laysUnder 145 = .ok (.if_icmp .ge 22, 3) := by decide +kernel
theorem dX8_laysUnder_148 : decode cX8_laysUnder 148 = .ok (.aload_n 0, 1) := by decide +kernel
theorem dX8_laysUnder_149 : decode cX8_laysUnder 149 = .ok (.getfield 37, 3) := by decide +kernel
theorem dX8_laysUnder_152 : decode cX8_laysUnder 152 = .ok (.aload_n 0, 1) := by decide +kernel
theorem dX8_laysUnder_153 : decode cX8_laysUnder 153 = .ok (.getfield 44, 3) := by decide +kernel
theorem dX8_laysUnder_156 : decode cX8_laysUnder 156 = .ok (.iload 7, 2) := by decide +kernel
theorem dX8_laysUnder_158 : decode cX8_laysUnder 158 = .ok (.iaload, 1) := by decide +kernel
theorem dX8_laysUnder_159 : decode cX8_laysUnder 159 = .ok (.iconst 0, 1) := by decide +kernel
theorem dX8_laysUnder_160 : decode cX8_laysUnder 160 = .ok (.bastore, 1) := by decide +kernel
theorem dX8_laysUnder_161 : decode cX8_laysUnder 161 = .ok (.iinc 7 1, 3) := by decide +kernel
theorem dX8_laysUnder_164 : decode cX8_laysUnder 164 = .ok (.goto (-25), 3) := by decide +kernel
theorem dX8_laysUnder_167 : decode cX8_laysUnder 167 = .ok (.aload_n 0, 1) := by decide +kernel
theorem dX8_laysUnder_168 : decode cX8_laysUnder 168 = .ok (.getfield 7, 3) := by decide +kernel
theorem dX8_laysUnder_171 : decode cX8_laysUnder 171 = .ok (.iconst 4, 1) := by decide +kernel
theorem dX8_laysUnder_172 : decode cX8_laysUnder 172 = .ok (.iaload, 1) := by decide +kernel
theorem dX8_laysUnder_173 : decode cX8_laysUnder 173 = .ok (.ifCond .ne 33, 3) := by decide +kernel
theorem dX8_laysUnder_176 : decode cX8_laysUnder 176 = .ok (.aload_n 0, 1) := by decide +kernel
theorem dX8_laysUnder_177 : decode cX8_laysUnder 177 = .ok (.iconst 0, 1) := by decide +kernel
theorem dX8_laysUnder_178 : decode cX8_laysUnder 178 = .ok (.aload_n 0, 1) := by decide +kernel
theorem dX8_laysUnder_179 : decode cX8_laysUnder 179 = .ok (.getfield 96, 3) := by decide +kernel
theorem dX8_laysUnder_182 : decode cX8_laysUnder 182 = .ok (.iload_n 3, 1) := by decide +kernel
theorem dX8_laysUnder_183 : decode cX8_laysUnder 183 = .ok (.iload 4, 2) := by decide +kernel
theorem dX8_laysUnder_185 : decode cX8_laysUnder 185 = .ok (.iload 5, 2) := by decide +kernel
theorem dX8_laysUnder_187 : decode cX8_laysUnder 187 = .ok (.iload 6, 2) := by decide +kernel
theorem dX8_laysUnder_189 : decode cX8_laysUnder 189 = .ok (.iload_n 2, 1) := by decide +kernel
theorem dX8_laysUnder_190 : decode cX8_laysUnder 190 = .ok (.iconst 2, 1) := by decide +kernel
theorem dX8_laysUnder_191 : decode cX8_laysUnder 191 = .ok (.irem, 1) := by decide +kernel
theorem dX8_laysUnder_192 : decode cX8_laysUnder 192 = .ok (.ifCond .ne 7, 3) := by decide +kernel
theorem dX8_laysUnder_195 : decode cX8_laysUnder 195 = .ok (.iconst 1, 1) := by decide +kernel
theorem dX8_laysUnder_196 : decode cX8_laysUnder 196 = .ok (.goto 4, 3) := by decide +kernel
theorem dX8_laysUnder_199 : decode cX8_laysUnder 199 = .ok (.iconst 0, 1) := by decide +kernel
theorem dX8_laysUnder_200 : decode cX8_laysUnder 200 = .ok (.invokevirtual 121, 3) := by decide +kernel
theorem dX8_laysUnder_203 : decode cX8_laysUnder 203 = .ok (.goto 44, 3) := by decide +kernel
theorem dX8_laysUnder_206 : decode cX8_laysUnder 206 = .ok (.aload_n 0, 1) := by decide +kernel
theorem dX8_laysUnder_207 : decode cX8_laysUnder 207 = .ok (.getfield 7, 3) := by decide +kernel
theorem dX8_laysUnder_210 : decode cX8_laysUnder 210 = .ok (.iconst 4, 1) := by decide +kernel
theorem dX8_laysUnder_211 : decode cX8_laysUnder 211 = .ok (.iaload, 1) := by decide +kernel
theorem dX8_laysUnder_212 : decode cX8_laysUnder 212 = .ok (.iconst 1, 1) := by decide +kernel
theorem dX8_laysUnder_213 : decode cX8_laysUnder 213 = .ok (.if_icmp .ne 23, 3) := by decide +kernel
theorem dX8_laysUnder_216 : decode cX8_laysUnder 216 = .ok (.aload_n 0, 1) := by decide +kernel
theorem dX8_laysUnder_217 : decode cX8_laysUnder 217 = .ok (.iload_n 3, 1) := by decide +kernel
theorem dX8_laysUnder_218 : decode cX8_laysUnder 218 = .ok (.iload 4, 2) := by decide +kernel
theorem dX8_laysUnder_220 : decode cX8_laysUnder 220 = .ok (.iload 5, 2) := by decide +kernel
theorem dX8_laysUnder_222 : decode cX8_laysUnder 222 = .ok (.iload 6, 2) := by decide +kernel
theorem dX8_laysUnder_224 : decode cX8_laysUnder 224 = .ok (.aload_n 0, 1) := by decide +kernel
theorem dX8_laysUnder_225 : decode cX8_laysUnder 225 = .ok (.getfield 41, 3) := by decide +kernel
theorem dX8_laysUnder_228 : decode cX8_laysUnder 228 = .ok (.iload_n 1, 1) := by decide +kernel
theorem dX8_laysUnder_229 : decode cX8_laysUnder 229 = .ok (.iaload, 1) := by decide +kernel
theorem dX8_laysUnder_230 : decode cX8_laysUnder 230 = .ok (.invokevirtual 139, 3) := by decide +kernel
theorem dX8_laysUnder_233 : decode cX8_laysUnder 233 = .ok (.goto 14, 3) := by decide +kernel
theorem dX8_laysUnder_236 : decode cX8_laysUnder 236 = .ok (.aload_n 0, 1) := by decide +kernel
theorem dX8_laysUnder_237 : decode cX8_laysUnder 237 = .ok (.iload_n 3, 1) := by decide +kernel
theorem dX8_laysUnder_238 : decode cX8_laysUnder 238 = .ok (.iload 4, 2) := by decide +kernel
theorem dX8_laysUnder_240 : decode cX8_laysUnder 240 = .ok (.iload 5, 2) := by decide +kernel
theorem dX8_laysUnder_242 : decode cX8_laysUnder 242 = .ok (.iload 6, 2) := by decide +kernel
theorem dX8_laysUnder_244 : decode cX8_laysUnder 244 = .ok (.invokevirtual 142, 3) := by decide +kernel
theorem dX8_laysUnder_247 : decode cX8_laysUnder 247 = .ok (.return_, 1) := by decide +kernel
set_option maxRecDepth 20000 in
theorem ggX8_lays_X8_sizeOf : GoodIn wsX8_lays wsX8_sizeOf := goodIn_r _ [8, 1, 9, 10, 11, 7, 12, 13, 14, 15, 16, 87, 88, 89, 90, 91, 92, 93, 94, 95, 96, 97, 98, 99, 100, 101, 102, 103, 104] (by decide +kernel) (by decide +kernel)
set_option maxRecDepth 20000 in
theorem gX8_lays_X8_sizeOf : GoodIn wsX8_lays (wsV RX8 86 RX8 yX8_sizeOf wsX8_sizeOf) := goodIn_app (goodIn_of _ (by decide +kernel)) ggX8_lays_X8_sizeOf
set_option maxRecDepth 20000 in
theorem ggX8_lays_X8_puts : GoodIn wsX8_lays wsX8_puts := goodIn_r _ [20, 21, 22, 23, 24, 87, 88, 89, 90, 91, 92, 93, 94, 95, 96, 97, 98, 99, 100, 101, 102, 103, 104] (by decide +kernel) (by decide +kernel)
set_option maxRecDepth 20000 in
theorem gX8_lays_X8_puts : GoodIn wsX8_lays (wsV RX8 106 RX8 yX8_puts wsX8_puts) := goodIn_app (goodIn_of _ (by decide +kernel)) ggX8_lays_X8_puts
set_option maxRecDepth 20000 in
theorem ggX8_lays_X8_depthOf : GoodIn wsX8_lays wsX8_depthOf := goodIn_r _ [28, 1, 87, 88, 89, 90, 91, 92, 93, 94, 95, 96, 97, 98, 99, 100, 101, 102, 103, 104] (by decide +kernel) (by decide +kernel)
set_option maxRecDepth 20000 in
theorem gX8_lays_X8_depthOf : GoodIn wsX8_lays (wsV RX8 89 RX8 yX8_depthOf wsX8_depthOf) := goodIn_app (goodIn_of _ (by decide +kernel)) ggX8_lays_X8_depthOf
set_option maxRecDepth 20000 in
theorem ggX8_lays_X8_childMany : GoodIn wsX8_lays wsX8_childMany := goodIn_r _ [12, 1, 87, 88, 89, 90, 91, 92, 93, 94, 95, 96, 97, 98, 99, 100, 101, 102, 103, 104] (by decide +kernel) (by decide +kernel)
set_option maxRecDepth 20000 in
theorem gX8_lays_X8_childMany : GoodIn wsX8_lays (wsV RX8 68 RX8 yX8_childMany wsX8_childMany) := goodIn_app (goodIn_of _ (by decide +kernel)) ggX8_lays_X8_childMany
set_option maxRecDepth 20000 in
theorem ggX8_lays_X8_laysUnder : GoodIn wsX8_lays wsX8_laysUnder := goodIn_r _ [32, 21, 1, 22, 23, 24, 3, 33, 34, 2, 35, 36, 37, 7, 38, 17, 18, 19, 20, 39, 40, 41, 42, 43, 44, 45, 46, 47, 48, 49, 50, 51, 52, 53, 54, 55, 56, 57, 58, 59, 60, 61, 62, 63, 64, 65, 66, 67, 68, 69, 70, 71, 72, 73, 74, 75, 76, 77, 78, 79, 80, 81, 82, 83, 84, 85, 86, 87, 88, 89, 90, 91, 92, 93, 94, 95, 96, 97, 98, 99, 100, 101, 102, 103, 104] (by decide +kernel) (by decide +kernel)
set_option maxRecDepth 20000 in
theorem gX8_lays_X8_laysUnder : GoodIn wsX8_lays (wsV RX8 146 RX8 yX8_laysUnder wsX8_laysUnder) := goodIn_app (goodIn_of _ (by decide +kernel)) ggX8_lays_X8_laysUnder
theorem dX8_lays_0 : decode cX8_lays 0 = .ok (.iconst 0, 1) := by decide +kernel
theorem dX8_lays_1 : decode cX8_lays 1 = .ok (.istore_n 1, 1) := by decide +kernel
theorem dX8_lays_2 : decode cX8_lays 2 = .ok (.iload_n 1, 1) := by decide +kernel
theorem dX8_lays_3 : decode cX8_lays 3 = .ok (.aload_n 0, 1) := by decide +kernel
theorem dX8_lays_4 : decode cX8_lays 4 = .ok (.getfield 7, 3) := by decide +kernel
theorem dX8_lays_7 : decode cX8_lays 7 = .ok (.iconst 0, 1) := by decide +kernel
theorem dX8_lays_8 : decode cX8_lays 8 = .ok (.iaload, 1) := by decide +kernel
theorem dX8_lays_9 : decode cX8_lays 9 = .ok (.if_icmp .ge 20, 3) := by decide +kernel
theorem dX8_lays_12 : decode cX8_lays 12 = .ok (.aload_n 0, 1) := by decide +kernel
theorem dX8_lays_13 : decode cX8_lays 13 = .ok (.getfield 41, 3) := by decide +kernel
theorem dX8_lays_16 : decode cX8_lays 16 = .ok (.iload_n 1, 1) := by decide +kernel
theorem dX8_lays_17 : decode cX8_lays 17 = .ok (.aload_n 0, 1) := by decide +kernel
theorem dX8_lays_18 : decode cX8_lays 18 = .ok (.iload_n 1, 1) := by decide +kernel
theorem dX8_lays_19 : decode cX8_lays 19 = .ok (.invokevirtual 86, 3) := by decide +kernel
theorem dX8_lays_22 : decode cX8_lays 22 = .ok (.iastore, 1) := by decide +kernel
theorem dX8_lays_23 : decode cX8_lays 23 = .ok (.iinc 1 1, 3) := by decide +kernel
theorem dX8_lays_26 : decode cX8_lays 26 = .ok (.goto (-24), 3) := by decide +kernel
theorem dX8_lays_29 : decode cX8_lays 29 = .ok (.aload_n 0, 1) := by decide +kernel
theorem dX8_lays_30 : decode cX8_lays 30 = .ok (.iconst 0, 1) := by decide +kernel
theorem dX8_lays_31 : decode cX8_lays 31 = .ok (.iconst 0, 1) := by decide +kernel
theorem dX8_lays_32 : decode cX8_lays 32 = .ok (.iconst 0, 1) := by decide +kernel
theorem dX8_lays_33 : decode cX8_lays 33 = .ok (.aload_n 0, 1) := by decide +kernel
theorem dX8_lays_34 : decode cX8_lays 34 = .ok (.getfield 7, 3) := by decide +kernel
theorem dX8_lays_37 : decode cX8_lays 37 = .ok (.iconst 1, 1) := by decide +kernel
theorem dX8_lays_38 : decode cX8_lays 38 = .ok (.iaload, 1) := by decide +kernel
theorem dX8_lays_39 : decode cX8_lays 39 = .ok (.aload_n 0, 1) := by decide +kernel
theorem dX8_lays_40 : decode cX8_lays 40 = .ok (.getfield 7, 3) := by decide +kernel
theorem dX8_lays_43 : decode cX8_lays 43 = .ok (.iconst 2, 1) := by decide +kernel
theorem dX8_lays_44 : decode cX8_lays 44 = .ok (.iaload, 1) := by decide +kernel
theorem dX8_lays_45 : decode cX8_lays 45 = .ok (.invokevirtual 106, 3) := by decide +kernel
theorem dX8_lays_48 : decode cX8_lays 48 = .ok (.aload_n 0, 1) := by decide +kernel
theorem dX8_lays_49 : decode cX8_lays 49 = .ok (.getfield 37, 3) := by decide +kernel
theorem dX8_lays_52 : decode cX8_lays 52 = .ok (.iconst 0, 1) := by decide +kernel
theorem dX8_lays_53 : decode cX8_lays 53 = .ok (.iconst 0, 1) := by decide +kernel
theorem dX8_lays_54 : decode cX8_lays 54 = .ok (.bastore, 1) := by decide +kernel
theorem dX8_lays_55 : decode cX8_lays 55 = .ok (.iconst 0, 1) := by decide +kernel
theorem dX8_lays_56 : decode cX8_lays 56 = .ok (.istore_n 1, 1) := by decide +kernel
theorem dX8_lays_57 : decode cX8_lays 57 = .ok (.iload_n 1, 1) := by decide +kernel
theorem dX8_lays_58 : decode cX8_lays 58 = .ok (.bipush 24, 2) := by decide +kernel
theorem dX8_lays_60 : decode cX8_lays 60 = .ok (.if_icmp .ge 50, 3) := by decide +kernel
theorem dX8_lays_63 : decode cX8_lays 63 = .ok (.iconst 0, 1) := by decide +kernel
theorem dX8_lays_64 : decode cX8_lays 64 = .ok (.istore_n 2, 1) := by decide +kernel
theorem dX8_lays_65 : decode cX8_lays 65 = .ok (.iload_n 2, 1) := by decide +kernel
theorem dX8_lays_66 : decode cX8_lays 66 = .ok (.aload_n 0, 1) := by decide +kernel
theorem dX8_lays_67 : decode cX8_lays 67 = .ok (.getfield 7, 3) := by decide +kernel
theorem dX8_lays_70 : decode cX8_lays 70 = .ok (.iconst 0, 1) := by decide +kernel
theorem dX8_lays_71 : decode cX8_lays 71 = .ok (.iaload, 1) := by decide +kernel
theorem dX8_lays_72 : decode cX8_lays 72 = .ok (.if_icmp .ge 32, 3) := by decide +kernel
theorem dX8_lays_75 : decode cX8_lays 75 = .ok (.aload_n 0, 1) := by decide +kernel
theorem dX8_lays_76 : decode cX8_lays 76 = .ok (.iload_n 2, 1) := by decide +kernel
theorem dX8_lays_77 : decode cX8_lays 77 = .ok (.invokevirtual 89, 3) := by decide +kernel
theorem dX8_lays_80 : decode cX8_lays 80 = .ok (.iload_n 1, 1) := by decide +kernel
theorem dX8_lays_81 : decode cX8_lays 81 = .ok (.if_icmp .ne 17, 3) := by decide +kernel
theorem dX8_lays_84 : decode cX8_lays 84 = .ok (.aload_n 0, 1) := by decide +kernel
theorem dX8_lays_85 : decode cX8_lays 85 = .ok (.iload_n 2, 1) := by decide +kernel
theorem dX8_lays_86 : decode cX8_lays 86 = .ok (.invokevirtual 68, 3) := by decide +kernel
theorem dX8_lays_89 : decode cX8_lays 89 = .ok (.ifCond .le 9, 3) := by decide +kernel
theorem dX8_lays_92 : decode cX8_lays 92 = .ok (.aload_n 0, 1) := by decide +kernel
theorem dX8_lays_93 : decode cX8_lays 93 = .ok (.iload_n 2, 1) := by decide +kernel
theorem dX8_lays_94 : decode cX8_lays 94 = .ok (.iload_n 1, 1) := by decide +kernel
theorem dX8_lays_95 : decode cX8_lays 95 = .ok (.invokevirtual 146, 3) := by decide +kernel
theorem dX8_lays_98 : decode cX8_lays 98 = .ok (.iinc 2 1, 3) := by decide +kernel
theorem dX8_lays_101 : decode cX8_lays 101 = .ok (.goto (-36), 3) := by decide +kernel
theorem dX8_lays_104 : decode cX8_lays 104 = .ok (.iinc 1 1, 3) := by decide +kernel
theorem dX8_lays_107 : decode cX8_lays 107 = .ok (.goto (-50), 3) := by decide +kernel
theorem dX8_lays_110 : decode cX8_lays 110 = .ok (.return_, 1) := by decide +kernel
set_option maxRecDepth 20000 in
theorem ggX8_x_X8_lays : GoodIn wsX8_x wsX8_lays := goodIn_r _ [6, 7, 8, 9, 10, 11, 12, 5, 13, 14, 15, 16, 17, 18, 19, 20, 21, 22, 23, 24, 25, 1, 26, 27, 28, 29, 30, 31, 32, 33, 34, 35, 36, 37, 38, 39, 40, 41, 42, 43, 44, 45, 46, 47, 48, 49, 50, 51, 52, 53, 54, 55, 56, 57, 58, 59, 60, 61, 62, 63, 64, 65, 66, 67, 68, 69, 70, 71, 72, 73, 74, 75, 76, 77, 78, 79, 80, 81, 82, 83, 84, 85, 86, 87, 88, 89, 90, 103, 104, 105, 106, 107, 108, 109, 110, 111, 112, 113, 114, 115, 116, 117, 118, 119, 120] (by decide +kernel) (by decide +kernel)
set_option maxRecDepth 20000 in
theorem gX8_x_X8_lays : GoodIn wsX8_x (wsV RX8 149 RX8 yX8_lays wsX8_lays) := goodIn_app (goodIn_of _ (by decide +kernel)) ggX8_x_X8_lays
set_option maxRecDepth 20000 in
theorem ggX8_x_X8_isNode : GoodIn wsX8_x wsX8_isNode := goodIn_r _ [94, 7, 95, 96, 5, 97, 103, 104, 105, 106, 107, 108, 109, 110, 111, 112, 113, 114, 115, 116, 117, 118, 119, 120] (by decide +kernel) (by decide +kernel)
set_option maxRecDepth 20000 in
theorem gX8_x_X8_isNode : GoodIn wsX8_x (wsV RX8 75 RX8 yX8_isNode wsX8_isNode) := goodIn_app (goodIn_of _ (by decide +kernel)) ggX8_x_X8_isNode
set_option maxRecDepth 20000 in
theorem ggX8_x_X8_fails : GoodIn wsX8_x wsX8_fails := goodIn_r _ [101, 102, 103, 104, 105, 106, 107, 108, 109, 110, 111, 112, 113, 114, 115, 116, 117, 118, 119, 120] (by decide +kernel) (by decide +kernel)
set_option maxRecDepth 20000 in
theorem gX8_x_X8_fails : GoodIn wsX8_x (wsV RX8 64 RX8 yX8_fails wsX8_fails) := goodIn_app (goodIn_of _ (by decide +kernel)) ggX8_x_X8_fails
theorem dX8_x_0 : decode cX8_x 0 = .ok (.aload_n 0, 1) := by decide +kernel
theorem dX8_x_1 : decode cX8_x 1 = .ok (.invokevirtual 149, 3) := by decide +kernel
theorem dX8_x_4 : decode cX8_x 4 = .ok (.aload_n 0, 1) := by decide +kernel
theorem dX8_x_5 : decode cX8_x 5 = .ok (.iload_n 1, 1) := by decide +kernel
theorem dX8_x_6 : decode cX8_x 6 = .ok (.invokevirtual 75, 3) := by decide +kernel
theorem dX8_x_9 : decode cX8_x 9 = .ok (.ifCond .eq 12, 3) := by decide +kernel
theorem dX8_x_12 : decode cX8_x 12 = .ok (.aload_n 0, 1) := by decide +kernel
theorem dX8_x_13 : decode cX8_x 13 = .ok (.getfield 25, 3) := by decide +kernel
theorem dX8_x_16 : decode cX8_x 16 = .ok (.iload_n 1, 1) := by decide +kernel
theorem dX8_x_17 : decode cX8_x 17 = .ok (.iaload, 1) := by decide +kernel
theorem dX8_x_18 : decode cX8_x 18 = .ok (.goto 9, 3) := by decide +kernel
theorem dX8_x_21 : decode cX8_x 21 = .ok (.aload_n 0, 1) := by decide +kernel
theorem dX8_x_22 : decode cX8_x 22 = .ok (.bipush (-2), 2) := by decide +kernel
theorem dX8_x_24 : decode cX8_x 24 = .ok (.invokevirtual 64, 3) := by decide +kernel
theorem dX8_x_27 : decode cX8_x 27 = .ok (.ireturn, 1) := by decide +kernel
set_option maxRecDepth 20000 in
theorem ggX8_y_X8_lays : GoodIn wsX8_y wsX8_lays := goodIn_r _ [6, 7, 8, 9, 10, 11, 12, 5, 13, 14, 15, 16, 17, 18, 19, 20, 21, 22, 23, 24, 25, 26, 1, 27, 28, 29, 30, 31, 32, 33, 34, 35, 36, 37, 38, 39, 40, 41, 42, 43, 44, 45, 46, 47, 48, 49, 50, 51, 52, 53, 54, 55, 56, 57, 58, 59, 60, 61, 62, 63, 64, 65, 66, 67, 68, 69, 70, 71, 72, 73, 74, 75, 76, 77, 78, 79, 80, 81, 82, 83, 84, 85, 86, 87, 88, 89, 90, 103, 104, 105, 106, 107, 108, 109, 110, 111, 112, 113, 114, 115, 116, 117, 118, 119, 120] (by decide +kernel) (by decide +kernel)
set_option maxRecDepth 20000 in
theorem gX8_y_X8_lays : GoodIn wsX8_y (wsV RX8 149 RX8 yX8_lays wsX8_lays) := goodIn_app (goodIn_of _ (by decide +kernel)) ggX8_y_X8_lays
set_option maxRecDepth 20000 in
theorem ggX8_y_X8_isNode : GoodIn wsX8_y wsX8_isNode := goodIn_r _ [94, 7, 95, 96, 5, 97, 103, 104, 105, 106, 107, 108, 109, 110, 111, 112, 113, 114, 115, 116, 117, 118, 119, 120] (by decide +kernel) (by decide +kernel)
set_option maxRecDepth 20000 in
theorem gX8_y_X8_isNode : GoodIn wsX8_y (wsV RX8 75 RX8 yX8_isNode wsX8_isNode) := goodIn_app (goodIn_of _ (by decide +kernel)) ggX8_y_X8_isNode
set_option maxRecDepth 20000 in
theorem ggX8_y_X8_fails : GoodIn wsX8_y wsX8_fails := goodIn_r _ [101, 102, 103, 104, 105, 106, 107, 108, 109, 110, 111, 112, 113, 114, 115, 116, 117, 118, 119, 120] (by decide +kernel) (by decide +kernel)
set_option maxRecDepth 20000 in
theorem gX8_y_X8_fails : GoodIn wsX8_y (wsV RX8 64 RX8 yX8_fails wsX8_fails) := goodIn_app (goodIn_of _ (by decide +kernel)) ggX8_y_X8_fails
theorem dX8_y_0 : decode cX8_y 0 = .ok (.aload_n 0, 1) := by decide +kernel
theorem dX8_y_1 : decode cX8_y 1 = .ok (.invokevirtual 149, 3) := by decide +kernel
theorem dX8_y_4 : decode cX8_y 4 = .ok (.aload_n 0, 1) := by decide +kernel
theorem dX8_y_5 : decode cX8_y 5 = .ok (.iload_n 1, 1) := by decide +kernel
theorem dX8_y_6 : decode cX8_y 6 = .ok (.invokevirtual 75, 3) := by decide +kernel
theorem dX8_y_9 : decode cX8_y 9 = .ok (.ifCond .eq 12, 3) := by decide +kernel
theorem dX8_y_12 : decode cX8_y 12 = .ok (.aload_n 0, 1) := by decide +kernel
theorem dX8_y_13 : decode cX8_y 13 = .ok (.getfield 28, 3) := by decide +kernel
theorem dX8_y_16 : decode cX8_y 16 = .ok (.iload_n 1, 1) := by decide +kernel
theorem dX8_y_17 : decode cX8_y 17 = .ok (.iaload, 1) := by decide +kernel
theorem dX8_y_18 : decode cX8_y 18 = .ok (.goto 9, 3) := by decide +kernel
theorem dX8_y_21 : decode cX8_y 21 = .ok (.aload_n 0, 1) := by decide +kernel
theorem dX8_y_22 : decode cX8_y 22 = .ok (.bipush (-2), 2) := by decide +kernel
theorem dX8_y_24 : decode cX8_y 24 = .ok (.invokevirtual 64, 3) := by decide +kernel
theorem dX8_y_27 : decode cX8_y 27 = .ok (.ireturn, 1) := by decide +kernel
set_option maxRecDepth 20000 in
theorem ggX8_width_X8_lays : GoodIn wsX8_width wsX8_lays := goodIn_r _ [6, 7, 8, 9, 10, 11, 12, 5, 13, 14, 15, 16, 17, 18, 19, 20, 21, 22, 23, 24, 25, 26, 27, 1, 28, 29, 30, 31, 32, 33, 34, 35, 36, 37, 38, 39, 40, 41, 42, 43, 44, 45, 46, 47, 48, 49, 50, 51, 52, 53, 54, 55, 56, 57, 58, 59, 60, 61, 62, 63, 64, 65, 66, 67, 68, 69, 70, 71, 72, 73, 74, 75, 76, 77, 78, 79, 80, 81, 82, 83, 84, 85, 86, 87, 88, 89, 90, 103, 104, 105, 106, 107, 108, 109, 110, 111, 112, 113, 114, 115, 116, 117, 118, 119, 120] (by decide +kernel) (by decide +kernel)
set_option maxRecDepth 20000 in
theorem gX8_width_X8_lays : GoodIn wsX8_width (wsV RX8 149 RX8 yX8_lays wsX8_lays) := goodIn_app (goodIn_of _ (by decide +kernel)) ggX8_width_X8_lays
set_option maxRecDepth 20000 in
theorem ggX8_width_X8_isNode : GoodIn wsX8_width wsX8_isNode := goodIn_r _ [94, 7, 95, 96, 5, 97, 103, 104, 105, 106, 107, 108, 109, 110, 111, 112, 113, 114, 115, 116, 117, 118, 119, 120] (by decide +kernel) (by decide +kernel)
set_option maxRecDepth 20000 in
theorem gX8_width_X8_isNode : GoodIn wsX8_width (wsV RX8 75 RX8 yX8_isNode wsX8_isNode) := goodIn_app (goodIn_of _ (by decide +kernel)) ggX8_width_X8_isNode
set_option maxRecDepth 20000 in
theorem ggX8_width_X8_fails : GoodIn wsX8_width wsX8_fails := goodIn_r _ [101, 102, 103, 104, 105, 106, 107, 108, 109, 110, 111, 112, 113, 114, 115, 116, 117, 118, 119, 120] (by decide +kernel) (by decide +kernel)
set_option maxRecDepth 20000 in
theorem gX8_width_X8_fails : GoodIn wsX8_width (wsV RX8 64 RX8 yX8_fails wsX8_fails) := goodIn_app (goodIn_of _ (by decide +kernel)) ggX8_width_X8_fails
theorem dX8_width_0 : decode cX8_width 0 = .ok (.aload_n 0, 1) := by decide +kernel
theorem dX8_width_1 : decode cX8_width 1 = .ok (.invokevirtual 149, 3) := by decide +kernel
theorem dX8_width_4 : decode cX8_width 4 = .ok (.aload_n 0, 1) := by decide +kernel
theorem dX8_width_5 : decode cX8_width 5 = .ok (.iload_n 1, 1) := by decide +kernel
theorem dX8_width_6 : decode cX8_width 6 = .ok (.invokevirtual 75, 3) := by decide +kernel
theorem dX8_width_9 : decode cX8_width 9 = .ok (.ifCond .eq 12, 3) := by decide +kernel
theorem dX8_width_12 : decode cX8_width 12 = .ok (.aload_n 0, 1) := by decide +kernel
theorem dX8_width_13 : decode cX8_width 13 = .ok (.getfield 31, 3) := by decide +kernel
theorem dX8_width_16 : decode cX8_width 16 = .ok (.iload_n 1, 1) := by decide +kernel
theorem dX8_width_17 : decode cX8_width 17 = .ok (.iaload, 1) := by decide +kernel
theorem dX8_width_18 : decode cX8_width 18 = .ok (.goto 9, 3) := by decide +kernel
theorem dX8_width_21 : decode cX8_width 21 = .ok (.aload_n 0, 1) := by decide +kernel
theorem dX8_width_22 : decode cX8_width 22 = .ok (.bipush (-2), 2) := by decide +kernel
theorem dX8_width_24 : decode cX8_width 24 = .ok (.invokevirtual 64, 3) := by decide +kernel
theorem dX8_width_27 : decode cX8_width 27 = .ok (.ireturn, 1) := by decide +kernel
set_option maxRecDepth 20000 in
theorem ggX8_height_X8_lays : GoodIn wsX8_height wsX8_lays := goodIn_r _ [6, 7, 8, 9, 10, 11, 12, 5, 13, 14, 15, 16, 17, 18, 19, 20, 21, 22, 23, 24, 25, 26, 27, 28, 1, 29, 30, 31, 32, 33, 34, 35, 36, 37, 38, 39, 40, 41, 42, 43, 44, 45, 46, 47, 48, 49, 50, 51, 52, 53, 54, 55, 56, 57, 58, 59, 60, 61, 62, 63, 64, 65, 66, 67, 68, 69, 70, 71, 72, 73, 74, 75, 76, 77, 78, 79, 80, 81, 82, 83, 84, 85, 86, 87, 88, 89, 90, 103, 104, 105, 106, 107, 108, 109, 110, 111, 112, 113, 114, 115, 116, 117, 118, 119, 120] (by decide +kernel) (by decide +kernel)
set_option maxRecDepth 20000 in
theorem gX8_height_X8_lays : GoodIn wsX8_height (wsV RX8 149 RX8 yX8_lays wsX8_lays) := goodIn_app (goodIn_of _ (by decide +kernel)) ggX8_height_X8_lays
set_option maxRecDepth 20000 in
theorem ggX8_height_X8_isNode : GoodIn wsX8_height wsX8_isNode := goodIn_r _ [94, 7, 95, 96, 5, 97, 103, 104, 105, 106, 107, 108, 109, 110, 111, 112, 113, 114, 115, 116, 117, 118, 119, 120] (by decide +kernel) (by decide +kernel)
set_option maxRecDepth 20000 in
theorem gX8_height_X8_isNode : GoodIn wsX8_height (wsV RX8 75 RX8 yX8_isNode wsX8_isNode) := goodIn_app (goodIn_of _ (by decide +kernel)) ggX8_height_X8_isNode
set_option maxRecDepth 20000 in
theorem ggX8_height_X8_fails : GoodIn wsX8_height wsX8_fails := goodIn_r _ [101, 102, 103, 104, 105, 106, 107, 108, 109, 110, 111, 112, 113, 114, 115, 116, 117, 118, 119, 120] (by decide +kernel) (by decide +kernel)
set_option maxRecDepth 20000 in
theorem gX8_height_X8_fails : GoodIn wsX8_height (wsV RX8 64 RX8 yX8_fails wsX8_fails) := goodIn_app (goodIn_of _ (by decide +kernel)) ggX8_height_X8_fails
theorem dX8_height_0 : decode cX8_height 0 = .ok (.aload_n 0, 1) := by decide +kernel
theorem dX8_height_1 : decode cX8_height 1 = .ok (.invokevirtual 149, 3) := by decide +kernel
theorem dX8_height_4 : decode cX8_height 4 = .ok (.aload_n 0, 1) := by decide +kernel
theorem dX8_height_5 : decode cX8_height 5 = .ok (.iload_n 1, 1) := by decide +kernel
theorem dX8_height_6 : decode cX8_height 6 = .ok (.invokevirtual 75, 3) := by decide +kernel
theorem dX8_height_9 : decode cX8_height 9 = .ok (.ifCond .eq 12, 3) := by decide +kernel
theorem dX8_height_12 : decode cX8_height 12 = .ok (.aload_n 0, 1) := by decide +kernel
theorem dX8_height_13 : decode cX8_height 13 = .ok (.getfield 34, 3) := by decide +kernel
theorem dX8_height_16 : decode cX8_height 16 = .ok (.iload_n 1, 1) := by decide +kernel
theorem dX8_height_17 : decode cX8_height 17 = .ok (.iaload, 1) := by decide +kernel
theorem dX8_height_18 : decode cX8_height 18 = .ok (.goto 9, 3) := by decide +kernel
theorem dX8_height_21 : decode cX8_height 21 = .ok (.aload_n 0, 1) := by decide +kernel
theorem dX8_height_22 : decode cX8_height 22 = .ok (.bipush (-2), 2) := by decide +kernel
theorem dX8_height_24 : decode cX8_height 24 = .ok (.invokevirtual 64, 3) := by decide +kernel
theorem dX8_height_27 : decode cX8_height 27 = .ok (.ireturn, 1) := by decide +kernel
set_option maxRecDepth 20000 in
theorem ggX8_isHidden_X8_lays : GoodIn wsX8_isHidden wsX8_lays := goodIn_r _ [6, 7, 8, 1, 9, 10, 11, 5, 12, 13, 14, 15, 16, 17, 18, 19, 20, 21, 22, 23, 24, 25, 26, 27, 28, 29, 30, 31, 32, 33, 34, 35, 36, 37, 38, 39, 40, 41, 42, 43, 44, 45, 46, 47, 48, 49, 50, 51, 52, 53, 54, 55, 56, 57, 58, 59, 60, 61, 62, 63, 64, 65, 66, 67, 68, 69, 70, 71, 72, 73, 74, 75, 76, 77, 78, 79, 80, 81, 82, 83, 84, 85, 86, 87, 88, 89, 90, 103, 104, 105, 106, 107, 108, 109, 110, 111, 112, 113, 114, 115, 116, 117, 118, 119, 120] (by decide +kernel) (by decide +kernel)
set_option maxRecDepth 20000 in
theorem gX8_isHidden_X8_lays : GoodIn wsX8_isHidden (wsV RX8 149 RX8 yX8_lays wsX8_lays) := goodIn_app (goodIn_of _ (by decide +kernel)) ggX8_isHidden_X8_lays
set_option maxRecDepth 20000 in
theorem ggX8_isHidden_X8_isNode : GoodIn wsX8_isHidden wsX8_isNode := goodIn_r _ [94, 7, 95, 96, 5, 97, 103, 104, 105, 106, 107, 108, 109, 110, 111, 112, 113, 114, 115, 116, 117, 118, 119, 120] (by decide +kernel) (by decide +kernel)
set_option maxRecDepth 20000 in
theorem gX8_isHidden_X8_isNode : GoodIn wsX8_isHidden (wsV RX8 75 RX8 yX8_isNode wsX8_isNode) := goodIn_app (goodIn_of _ (by decide +kernel)) ggX8_isHidden_X8_isNode
set_option maxRecDepth 20000 in
theorem ggX8_isHidden_X8_fails : GoodIn wsX8_isHidden wsX8_fails := goodIn_r _ [101, 102, 103, 104, 105, 106, 107, 108, 109, 110, 111, 112, 113, 114, 115, 116, 117, 118, 119, 120] (by decide +kernel) (by decide +kernel)
set_option maxRecDepth 20000 in
theorem gX8_isHidden_X8_fails : GoodIn wsX8_isHidden (wsV RX8 64 RX8 yX8_fails wsX8_fails) := goodIn_app (goodIn_of _ (by decide +kernel)) ggX8_isHidden_X8_fails
theorem dX8_isHidden_0 : decode cX8_isHidden 0 = .ok (.aload_n 0, 1) := by decide +kernel
theorem dX8_isHidden_1 : decode cX8_isHidden 1 = .ok (.invokevirtual 149, 3) := by decide +kernel
theorem dX8_isHidden_4 : decode cX8_isHidden 4 = .ok (.aload_n 0, 1) := by decide +kernel
theorem dX8_isHidden_5 : decode cX8_isHidden 5 = .ok (.iload_n 1, 1) := by decide +kernel
theorem dX8_isHidden_6 : decode cX8_isHidden 6 = .ok (.invokevirtual 75, 3) := by decide +kernel
theorem dX8_isHidden_9 : decode cX8_isHidden 9 = .ok (.ifCond .eq 20, 3) := by decide +kernel
theorem dX8_isHidden_12 : decode cX8_isHidden 12 = .ok (.aload_n 0, 1) := by decide +kernel
theorem dX8_isHidden_13 : decode cX8_isHidden 13 = .ok (.getfield 37, 3) := by decide +kernel
theorem dX8_isHidden_16 : decode cX8_isHidden 16 = .ok (.iload_n 1, 1) := by decide +kernel
theorem dX8_isHidden_17 : decode cX8_isHidden 17 = .ok (.baload, 1) := by decide +kernel
theorem dX8_isHidden_18 : decode cX8_isHidden 18 = .ok (.ifCond .eq 7, 3) := by decide +kernel
theorem dX8_isHidden_21 : decode cX8_isHidden 21 = .ok (.iconst 1, 1) := by decide +kernel
theorem dX8_isHidden_22 : decode cX8_isHidden 22 = .ok (.goto 13, 3) := by decide +kernel
theorem dX8_isHidden_25 : decode cX8_isHidden 25 = .ok (.iconst 0, 1) := by decide +kernel
theorem dX8_isHidden_26 : decode cX8_isHidden 26 = .ok (.goto 9, 3) := by decide +kernel
theorem dX8_isHidden_29 : decode cX8_isHidden 29 = .ok (.aload_n 0, 1) := by decide +kernel
theorem dX8_isHidden_30 : decode cX8_isHidden 30 = .ok (.bipush (-2), 2) := by decide +kernel
theorem dX8_isHidden_32 : decode cX8_isHidden 32 = .ok (.invokevirtual 64, 3) := by decide +kernel
theorem dX8_isHidden_35 : decode cX8_isHidden 35 = .ok (.ireturn, 1) := by decide +kernel
set_option maxRecDepth 20000 in
theorem ggX8_nodeAt_X8_within : GoodIn wsX8_nodeAt wsX8_within := goodIn_r _ [9] (by decide +kernel) (by decide +kernel)
set_option maxRecDepth 20000 in
theorem gX8_nodeAt_X8_within : GoodIn wsX8_nodeAt (va_wsS RX8 56 yX8_within wsX8_within) := goodIn_app (goodIn_of _ (by decide +kernel)) ggX8_nodeAt_X8_within
set_option maxRecDepth 20000 in
theorem ggX8_nodeAt_X8_fails : GoodIn wsX8_nodeAt wsX8_fails := goodIn_r _ [13, 14, 99, 100, 101, 102, 103, 104, 105, 106, 107, 108, 109, 110, 111, 112, 113, 114, 115, 116] (by decide +kernel) (by decide +kernel)
set_option maxRecDepth 20000 in
theorem gX8_nodeAt_X8_fails : GoodIn wsX8_nodeAt (wsV RX8 64 RX8 yX8_fails wsX8_fails) := goodIn_app (goodIn_of _ (by decide +kernel)) ggX8_nodeAt_X8_fails
set_option maxRecDepth 20000 in
theorem ggX8_nodeAt_X8_lays : GoodIn wsX8_nodeAt wsX8_lays := goodIn_r _ [18, 1, 19, 20, 21, 22, 23, 8, 24, 25, 26, 27, 28, 29, 30, 31, 32, 33, 34, 35, 36, 2, 4, 3, 5, 37, 38, 39, 40, 41, 42, 43, 44, 45, 46, 47, 48, 49, 50, 51, 52, 53, 54, 55, 56, 57, 58, 59, 60, 61, 62, 63, 64, 65, 66, 67, 68, 69, 70, 71, 72, 73, 74, 75, 76, 77, 78, 79, 80, 81, 82, 83, 84, 85, 86, 87, 88, 89, 90, 91, 92, 93, 94, 95, 96, 97, 98, 99, 100, 101, 102, 103, 104, 105, 106, 107, 108, 109, 110, 111, 112, 113, 114, 115, 116] (by decide +kernel) (by decide +kernel)
set_option maxRecDepth 20000 in
theorem gX8_nodeAt_X8_lays : GoodIn wsX8_nodeAt (wsV RX8 149 RX8 yX8_lays wsX8_lays) := goodIn_app (goodIn_of _ (by decide +kernel)) ggX8_nodeAt_X8_lays
set_option maxRecDepth 20000 in
theorem ggX8_nodeAt_X8_depthOf : GoodIn wsX8_nodeAt wsX8_depthOf := goodIn_r _ [40, 1, 99, 100, 101, 102, 103, 104, 105, 106, 107, 108, 109, 110, 111, 112, 113, 114, 115, 116] (by decide +kernel) (by decide +kernel)
set_option maxRecDepth 20000 in
theorem gX8_nodeAt_X8_depthOf : GoodIn wsX8_nodeAt (wsV RX8 89 RX8 yX8_depthOf wsX8_depthOf) := goodIn_app (goodIn_of _ (by decide +kernel)) ggX8_nodeAt_X8_depthOf
theorem dX8_nodeAt_0 : decode cX8_nodeAt 0 = .ok (.iload_n 1, 1) := by decide +kernel
theorem dX8_nodeAt_1 : decode cX8_nodeAt 1 = .ok (.iconst 0, 1) := by decide +kernel
theorem dX8_nodeAt_2 : decode cX8_nodeAt 2 = .ok (.aload_n 0, 1) := by decide +kernel
theorem dX8_nodeAt_3 : decode cX8_nodeAt 3 = .ok (.getfield 7, 3) := by decide +kernel
theorem dX8_nodeAt_6 : decode cX8_nodeAt 6 = .ok (.iconst 1, 1) := by decide +kernel
theorem dX8_nodeAt_7 : decode cX8_nodeAt 7 = .ok (.iaload, 1) := by decide +kernel
theorem dX8_nodeAt_8 : decode cX8_nodeAt 8 = .ok (.iconst 1, 1) := by decide +kernel
theorem dX8_nodeAt_9 : decode cX8_nodeAt 9 = .ok (.isub, 1) := by decide +kernel
theorem dX8_nodeAt_10 : decode cX8_nodeAt 10 = .ok (.invokestatic 56, 3) := by decide +kernel
theorem dX8_nodeAt_13 : decode cX8_nodeAt 13 = .ok (.ifCond .eq 19, 3) := by decide +kernel
theorem dX8_nodeAt_16 : decode cX8_nodeAt 16 = .ok (.iload_n 2, 1) := by decide +kernel
theorem dX8_nodeAt_17 : decode cX8_nodeAt 17 = .ok (.iconst 0, 1) := by decide +kernel
theorem dX8_nodeAt_18 : decode cX8_nodeAt 18 = .ok (.aload_n 0, 1) := by decide +kernel
theorem dX8_nodeAt_19 : decode cX8_nodeAt 19 = .ok (.getfield 7, 3) := by decide +kernel
theorem dX8_nodeAt_22 : decode cX8_nodeAt 22 = .ok (.iconst 2, 1) := by decide +kernel
theorem dX8_nodeAt_23 : decode cX8_nodeAt 23 = .ok (.iaload, 1) := by decide +kernel
theorem dX8_nodeAt_24 : decode cX8_nodeAt 24 = .ok (.iconst 1, 1) := by decide +kernel
theorem dX8_nodeAt_25 : decode cX8_nodeAt 25 = .ok (.isub, 1) := by decide +kernel
theorem dX8_nodeAt_26 : decode cX8_nodeAt 26 = .ok (.invokestatic 56, 3) := by decide +kernel
theorem dX8_nodeAt_29 : decode cX8_nodeAt 29 = .ok (.ifCond .ne 10, 3) := by decide +kernel
theorem dX8_nodeAt_32 : decode cX8_nodeAt 32 = .ok (.aload_n 0, 1) := by decide +kernel
theorem dX8_nodeAt_33 : decode cX8_nodeAt 33 = .ok (.bipush (-2), 2) := by decide +kernel
theorem dX8_nodeAt_35 : decode cX8_nodeAt 35 = .ok (.invokevirtual 64, 3) := by decide +kernel
theorem dX8_nodeAt_38 : decode cX8_nodeAt 38 = .ok (.ireturn, 1) := by decide +kernel
theorem dX8_nodeAt_39 : decode cX8_nodeAt 39 = .ok (.aload_n 0, 1) := by decide +kernel
theorem dX8_nodeAt_40 : decode cX8_nodeAt 40 = .ok (.invokevirtual 149, 3) := by decide +kernel
theorem dX8_nodeAt_43 : decode cX8_nodeAt 43 = .ok (.iconst 0, 1) := by decide +kernel
theorem dX8_nodeAt_44 : decode cX8_nodeAt 44 = .ok (.istore_n 3, 1) := by decide +kernel
theorem dX8_nodeAt_45 : decode cX8_nodeAt 45 = .ok (.iconst 1, 1) := by decide +kernel
theorem dX8_nodeAt_46 : decode cX8_nodeAt 46 = .ok (.istore 4, 2) := by decide +kernel
theorem dX8_nodeAt_48 : decode cX8_nodeAt 48 = .ok (.iload 4, 2) := by decide +kernel
theorem dX8_nodeAt_50 : decode cX8_nodeAt 50 = .ok (.aload_n 0, 1) := by decide +kernel
theorem dX8_nodeAt_51 : decode cX8_nodeAt 51 = .ok (.getfield 7, 3) := by decide +kernel
theorem dX8_nodeAt_54 : decode cX8_nodeAt 54 = .ok (.iconst 0, 1) := by decide +kernel
theorem dX8_nodeAt_55 : decode cX8_nodeAt 55 = .ok (.iaload, 1) := by decide +kernel
theorem dX8_nodeAt_56 : decode cX8_nodeAt 56 = .ok (.if_icmp .ge 104, 3) := by decide +kernel
theorem dX8_nodeAt_59 : decode cX8_nodeAt 59 = .ok (.iload_n 1, 1) := by decide +kernel
theorem dX8_nodeAt_60 : decode cX8_nodeAt 60 = .ok (.aload_n 0, 1) := by decide +kernel
theorem dX8_nodeAt_61 : decode cX8_nodeAt 61 = .ok (.getfield 25, 3) := by decide +kernel
theorem dX8_nodeAt_64 : decode cX8_nodeAt 64 = .ok (.iload 4, 2) := by decide +kernel
theorem dX8_nodeAt_66 : decode cX8_nodeAt 66 = .ok (.iaload, 1) := by decide +kernel
theorem dX8_nodeAt_67 : decode cX8_nodeAt 67 = .ok (.aload_n 0, 1) := by decide +kernel
theorem dX8_nodeAt_68 : decode cX8_nodeAt 68 = .ok (.getfield 25, 3) := by decide +kernel
theorem dX8_nodeAt_71 : decode cX8_nodeAt 71 = .ok (.iload 4, 2) := by decide +kernel
theorem dX8_nodeAt_73 : decode cX8_nodeAt 73 = .ok (.iaload, 1) := by decide +kernel
theorem dX8_nodeAt_74 : decode cX8_nodeAt 74 = .ok (.aload_n 0, 1) := by decide +kernel
theorem dX8_nodeAt_75 : decode cX8_nodeAt 75 = .ok (.getfield 31, 3) := by decide +kernel
theorem dX8_nodeAt_78 : decode cX8_nodeAt 78 = .ok (.iload 4, 2) := by decide +kernel
theorem dX8_nodeAt_80 : decode cX8_nodeAt 80 = .ok (.iaload, 1) := by decide +kernel
theorem dX8_nodeAt_81 : decode cX8_nodeAt 81 = .ok (.iadd, 1) := by decide +kernel
theorem dX8_nodeAt_82 : decode cX8_nodeAt 82 = .ok (.iconst 1, 1) := by decide +kernel
theorem dX8_nodeAt_83 : decode cX8_nodeAt 83 = .ok (.isub, 1) := by decide +kernel
theorem dX8_nodeAt_84 : decode cX8_nodeAt 84 = .ok (.invokestatic 56, 3) := by decide +kernel
theorem dX8_nodeAt_87 : decode cX8_nodeAt 87 = .ok (.ifCond .eq 38, 3) := by decide +kernel
theorem dX8_nodeAt_90 : decode cX8_nodeAt 90 = .ok (.iload_n 2, 1) := by decide +kernel
theorem dX8_nodeAt_91 : decode cX8_nodeAt 91 = .ok (.aload_n 0, 1) := by decide +kernel
theorem dX8_nodeAt_92 : decode cX8_nodeAt 92 = .ok (.getfield 28, 3) := by decide +kernel
theorem dX8_nodeAt_95 : decode cX8_nodeAt 95 = .ok (.iload 4, 2) := by decide +kernel
theorem dX8_nodeAt_97 : decode cX8_nodeAt 97 = .ok (.iaload, 1) := by decide +kernel
theorem dX8_nodeAt_98 : decode cX8_nodeAt 98 = .ok (.aload_n 0, 1) := by decide +kernel
theorem dX8_nodeAt_99 : decode cX8_nodeAt 99 = .ok (.getfield 28, 3) := by decide +kernel
theorem dX8_nodeAt_102 : decode cX8_nodeAt 102 = .ok (.iload 4, 2) := by decide +kernel
theorem dX8_nodeAt_104 : decode cX8_nodeAt 104 = .ok (.iaload, 1) := by decide +kernel
theorem dX8_nodeAt_105 : decode cX8_nodeAt 105 = .ok (.aload_n 0, 1) := by decide +kernel
theorem dX8_nodeAt_106 : decode cX8_nodeAt 106 = .ok (.getfield 34, 3) := by decide +kernel
theorem dX8_nodeAt_109 : decode cX8_nodeAt 109 = .ok (.iload 4, 2) := by decide +kernel
theorem dX8_nodeAt_111 : decode cX8_nodeAt 111 = .ok (.iaload, 1) := by decide +kernel
theorem dX8_nodeAt_112 : decode cX8_nodeAt 112 = .ok (.iadd, 1) := by decide +kernel
theorem dX8_nodeAt_113 : decode cX8_nodeAt 113 = .ok (.iconst 1, 1) := by decide +kernel
theorem dX8_nodeAt_114 : decode cX8_nodeAt 114 = .ok (.isub, 1) := by decide +kernel
theorem dX8_nodeAt_115 : decode cX8_nodeAt 115 = .ok (.invokestatic 56, 3) := by decide +kernel
theorem dX8_nodeAt_118 : decode cX8_nodeAt 118 = .ok (.ifCond .eq 7, 3) := by decide +kernel
theorem dX8_nodeAt_121 : decode cX8_nodeAt 121 = .ok (.iconst 1, 1) := by decide +kernel
theorem dX8_nodeAt_122 : decode cX8_nodeAt 122 = .ok (.goto 4, 3) := by decide +kernel
theorem dX8_nodeAt_125 : decode cX8_nodeAt 125 = .ok (.iconst 0, 1) := by decide +kernel
theorem dX8_nodeAt_126 : decode cX8_nodeAt 126 = .ok (.istore 5, 2) := by decide +kernel
theorem dX8_nodeAt_128 : decode cX8_nodeAt 128 = .ok (.iload 5, 2) := by decide +kernel
theorem dX8_nodeAt_130 : decode cX8_nodeAt 130 = .ok (.ifCond .eq 22, 3) := by decide +kernel
theorem dX8_nodeAt_133 : decode cX8_nodeAt 133 = .ok (.aload_n 0, 1) := by decide +kernel
theorem dX8_nodeAt_134 : decode cX8_nodeAt 134 = .ok (.iload 4, 2) := by decide +kernel
theorem dX8_nodeAt_136 : decode cX8_nodeAt 136 = .ok (.invokevirtual 89, 3) := by decide +kernel
theorem dX8_nodeAt_139 : decode cX8_nodeAt 139 = .ok (.aload_n 0, 1) := by decide +kernel
theorem dX8_nodeAt_140 : decode cX8_nodeAt 140 = .ok (.iload_n 3, 1) := by decide +kernel
theorem dX8_nodeAt_141 : decode cX8_nodeAt 141 = .ok (.invokevirtual 89, 3) := by decide +kernel
theorem dX8_nodeAt_144 : decode cX8_nodeAt 144 = .ok (.if_icmp .le 8, 3) := by decide +kernel
theorem dX8_nodeAt_147 : decode cX8_nodeAt 147 = .ok (.iload 4, 2) := by decide +kernel
theorem dX8_nodeAt_149 : decode cX8_nodeAt 149 = .ok (.goto 4, 3) := by decide +kernel
theorem dX8_nodeAt_152 : decode cX8_nodeAt 152 = .ok (.iload_n 3, 1) := by decide +kernel
theorem dX8_nodeAt_153 : decode cX8_nodeAt 153 = .ok (.istore_n 3, 1) := by decide +kernel
theorem dX8_nodeAt_154 : decode cX8_nodeAt 154 = .ok (.iinc 4 1, 3) := by decide +kernel
theorem dX8_nodeAt_157 : decode cX8_nodeAt 157 = .ok (.goto (-109), 3) := by decide +kernel
theorem dX8_nodeAt_160 : decode cX8_nodeAt 160 = .ok (.iload_n 3, 1) := by decide +kernel
theorem dX8_nodeAt_161 : decode cX8_nodeAt 161 = .ok (.ireturn, 1) := by decide +kernel
set_option maxRecDepth 20000 in
theorem ggX8_pixels_X8_childMany : GoodIn wsX8_pixels wsX8_childMany := goodIn_r _ [8, 1, 9, 10, 11, 12, 13, 14, 15, 16, 17, 18, 19, 20, 21, 22, 23, 24, 25, 26] (by decide +kernel) (by decide +kernel)
set_option maxRecDepth 20000 in
theorem gX8_pixels_X8_childMany : GoodIn wsX8_pixels (wsV RX8 68 RX8 yX8_childMany wsX8_childMany) := goodIn_app (goodIn_of _ (by decide +kernel)) ggX8_pixels_X8_childMany
theorem dX8_pixels_0 : decode cX8_pixels 0 = .ok (.iconst 0, 1) := by decide +kernel
theorem dX8_pixels_1 : decode cX8_pixels 1 = .ok (.istore_n 1, 1) := by decide +kernel
theorem dX8_pixels_2 : decode cX8_pixels 2 = .ok (.iconst 0, 1) := by decide +kernel
theorem dX8_pixels_3 : decode cX8_pixels 3 = .ok (.istore_n 2, 1) := by decide +kernel
theorem dX8_pixels_4 : decode cX8_pixels 4 = .ok (.iload_n 2, 1) := by decide +kernel
theorem dX8_pixels_5 : decode cX8_pixels 5 = .ok (.aload_n 0, 1) := by decide +kernel
theorem dX8_pixels_6 : decode cX8_pixels 6 = .ok (.getfield 7, 3) := by decide +kernel
theorem dX8_pixels_9 : decode cX8_pixels 9 = .ok (.iconst 0, 1) := by decide +kernel
theorem dX8_pixels_10 : decode cX8_pixels 10 = .ok (.iaload, 1) := by decide +kernel
theorem dX8_pixels_11 : decode cX8_pixels 11 = .ok (.if_icmp .ge 37, 3) := by decide +kernel
theorem dX8_pixels_14 : decode cX8_pixels 14 = .ok (.iload_n 1, 1) := by decide +kernel
theorem dX8_pixels_15 : decode cX8_pixels 15 = .ok (.aload_n 0, 1) := by decide +kernel
theorem dX8_pixels_16 : decode cX8_pixels 16 = .ok (.iload_n 2, 1) := by decide +kernel
theorem dX8_pixels_17 : decode cX8_pixels 17 = .ok (.invokevirtual 68, 3) := by decide +kernel
theorem dX8_pixels_20 : decode cX8_pixels 20 = .ok (.ifCond .ne 19, 3) := by decide +kernel
theorem dX8_pixels_23 : decode cX8_pixels 23 = .ok (.aload_n 0, 1) := by decide +kernel
theorem dX8_pixels_24 : decode cX8_pixels 24 = .ok (.getfield 31, 3) := by decide +kernel
theorem dX8_pixels_27 : decode cX8_pixels 27 = .ok (.iload_n 2, 1) := by decide +kernel
theorem dX8_pixels_28 : decode cX8_pixels 28 = .ok (.iaload, 1) := by decide +kernel
theorem dX8_pixels_29 : decode cX8_pixels 29 = .ok (.aload_n 0, 1) := by decide +kernel
theorem dX8_pixels_30 : decode cX8_pixels 30 = .ok (.getfield 34, 3) := by decide +kernel
theorem dX8_pixels_33 : decode cX8_pixels 33 = .ok (.iload_n 2, 1) := by decide +kernel
theorem dX8_pixels_34 : decode cX8_pixels 34 = .ok (.iaload, 1) := by decide +kernel
theorem dX8_pixels_35 : decode cX8_pixels 35 = .ok (.imul, 1) := by decide +kernel
theorem dX8_pixels_36 : decode cX8_pixels 36 = .ok (.goto 4, 3) := by decide +kernel
theorem dX8_pixels_39 : decode cX8_pixels 39 = .ok (.iconst 0, 1) := by decide +kernel
theorem dX8_pixels_40 : decode cX8_pixels 40 = .ok (.iadd, 1) := by decide +kernel
theorem dX8_pixels_41 : decode cX8_pixels 41 = .ok (.istore_n 1, 1) := by decide +kernel
theorem dX8_pixels_42 : decode cX8_pixels 42 = .ok (.iinc 2 1, 3) := by decide +kernel
theorem dX8_pixels_45 : decode cX8_pixels 45 = .ok (.goto (-41), 3) := by decide +kernel
theorem dX8_pixels_48 : decode cX8_pixels 48 = .ok (.iload_n 1, 1) := by decide +kernel
theorem dX8_pixels_49 : decode cX8_pixels 49 = .ok (.ireturn, 1) := by decide +kernel
set_option maxRecDepth 20000 in
theorem ggX8_leafPixels_X8_lays : GoodIn wsX8_leafPixels wsX8_lays := goodIn_r _ [5, 6, 7, 8, 9, 10, 11, 4, 12, 13, 14, 15, 16, 17, 18, 19, 20, 21, 22, 23, 24, 25, 26, 27, 28, 29, 30, 31, 32, 33, 34, 35, 36, 37, 38, 39, 40, 41, 42, 43, 44, 45, 46, 47, 48, 49, 50, 51, 52, 53, 54, 55, 56, 57, 58, 59, 60, 61, 62, 63, 64, 65, 66, 67, 68, 69, 70, 71, 72, 73, 74, 75, 76, 77, 78, 79, 80, 81, 82, 83, 84, 85, 86, 87, 88, 89, 90, 95, 96, 97, 98, 99, 100, 101, 102, 103, 104, 105, 106, 107, 108, 109, 110, 111, 112] (by decide +kernel) (by decide +kernel)
set_option maxRecDepth 20000 in
theorem gX8_leafPixels_X8_lays : GoodIn wsX8_leafPixels (wsV RX8 149 RX8 yX8_lays wsX8_lays) := goodIn_app (goodIn_of _ (by decide +kernel)) ggX8_leafPixels_X8_lays
set_option maxRecDepth 20000 in
theorem ggX8_leafPixels_X8_pixels : GoodIn wsX8_leafPixels wsX8_pixels := goodIn_r _ [94, 6, 27, 28, 13, 14, 15, 4, 16, 95, 96, 97, 98, 99, 100, 101, 102, 103, 104, 105, 106, 107, 108, 109, 110, 111, 112] (by decide +kernel) (by decide +kernel)
set_option maxRecDepth 20000 in
theorem gX8_leafPixels_X8_pixels : GoodIn wsX8_leafPixels (wsV RX8 152 RX8 yX8_pixels wsX8_pixels) := goodIn_app (goodIn_of _ (by decide +kernel)) ggX8_leafPixels_X8_pixels
theorem dX8_leafPixels_0 : decode cX8_leafPixels 0 = .ok (.aload_n 0, 1) := by decide +kernel
theorem dX8_leafPixels_1 : decode cX8_leafPixels 1 = .ok (.invokevirtual 149, 3) := by decide +kernel
theorem dX8_leafPixels_4 : decode cX8_leafPixels 4 = .ok (.aload_n 0, 1) := by decide +kernel
theorem dX8_leafPixels_5 : decode cX8_leafPixels 5 = .ok (.invokevirtual 152, 3) := by decide +kernel
theorem dX8_leafPixels_8 : decode cX8_leafPixels 8 = .ok (.ireturn, 1) := by decide +kernel
set_option maxRecDepth 20000 in
theorem ggX8_aspects_X8_childMany : GoodIn wsX8_aspects wsX8_childMany := goodIn_r _ [8, 1, 21, 22, 23, 24, 25, 26, 27, 28, 29, 30, 31, 32, 33, 34, 35, 36, 37, 38] (by decide +kernel) (by decide +kernel)
set_option maxRecDepth 20000 in
theorem gX8_aspects_X8_childMany : GoodIn wsX8_aspects (wsV RX8 68 RX8 yX8_childMany wsX8_childMany) := goodIn_app (goodIn_of _ (by decide +kernel)) ggX8_aspects_X8_childMany
set_option maxRecDepth 20000 in
theorem ggX8_aspects_Jxf58ca_floatToIntBits_5c35a : GoodIn wsX8_aspects wsJxf58ca_floatToIntBits_5c35a := goodIn_r _ [12, 13, 14, 15, 16, 17, 18, 19, 11, 20] (by decide +kernel) (by decide +kernel)
set_option maxRecDepth 20000 in
theorem gX8_aspects_Jxf58ca_floatToIntBits_5c35a : GoodIn wsX8_aspects (va_wsS RX8 155 yJxf58ca_floatToIntBits_5c35a wsJxf58ca_floatToIntBits_5c35a) := goodIn_app (goodIn_of _ (by decide +kernel)) ggX8_aspects_Jxf58ca_floatToIntBits_5c35a
theorem dX8_aspects_0 : decode cX8_aspects 0 = .ok (.fconst 0, 1) := by decide +kernel
theorem dX8_aspects_1 : decode cX8_aspects 1 = .ok (.fstore_n 2, 1) := by decide +kernel
theorem dX8_aspects_2 : decode cX8_aspects 2 = .ok (.fconst 0, 1) := by decide +kernel
theorem dX8_aspects_3 : decode cX8_aspects 3 = .ok (.fstore_n 3, 1) := by decide +kernel
theorem dX8_aspects_4 : decode cX8_aspects 4 = .ok (.iconst 0, 1) := by decide +kernel
theorem dX8_aspects_5 : decode cX8_aspects 5 = .ok (.istore 4, 2) := by decide +kernel
theorem dX8_aspects_7 : decode cX8_aspects 7 = .ok (.iconst 0, 1) := by decide +kernel
theorem dX8_aspects_8 : decode cX8_aspects 8 = .ok (.istore 5, 2) := by decide +kernel
theorem dX8_aspects_10 : decode cX8_aspects 10 = .ok (.iload 5, 2) := by decide +kernel
theorem dX8_aspects_12 : decode cX8_aspects 12 = .ok (.aload_n 0, 1) := by decide +kernel
theorem dX8_aspects_13 : decode cX8_aspects 13 = .ok (.getfield 7, 3) := by decide +kernel
theorem dX8_aspects_16 : decode cX8_aspects 16 = .ok (.iconst 0, 1) := by decide +kernel
theorem dX8_aspects_17 : decode cX8_aspects 17 = .ok (.iaload, 1) := by decide +kernel
theorem dX8_aspects_18 : decode cX8_aspects 18 = .ok (.if_icmp .ge 141, 3) := by decide +kernel
theorem dX8_aspects_21 : decode cX8_aspects 21 = .ok (.aload_n 0, 1) := by decide +kernel
theorem dX8_aspects_22 : decode cX8_aspects 22 = .ok (.iload 5, 2) := by decide +kernel
theorem dX8_aspects_24 : decode cX8_aspects 24 = .ok (.invokevirtual 68, 3) := by decide +kernel
theorem dX8_aspects_27 : decode cX8_aspects 27 = .ok (.ifCond .ne 126, 3) := by decide +kernel
theorem dX8_aspects_30 : decode cX8_aspects 30 = .ok (.aload_n 0, 1) := by decide +kernel
theorem dX8_aspects_31 : decode cX8_aspects 31 = .ok (.getfield 31, 3) := by decide +kernel
theorem dX8_aspects_34 : decode cX8_aspects 34 = .ok (.iload 5, 2) := by decide +kernel
theorem dX8_aspects_36 : decode cX8_aspects 36 = .ok (.iaload, 1) := by decide +kernel
theorem dX8_aspects_37 : decode cX8_aspects 37 = .ok (.ifCond .le 116, 3) := by decide +kernel
theorem dX8_aspects_40 : decode cX8_aspects 40 = .ok (.aload_n 0, 1) := by decide +kernel
theorem dX8_aspects_41 : decode cX8_aspects 41 = .ok (.getfield 34, 3) := by decide +kernel
theorem dX8_aspects_44 : decode cX8_aspects 44 = .ok (.iload 5, 2) := by decide +kernel
theorem dX8_aspects_46 : decode cX8_aspects 46 = .ok (.iaload, 1) := by decide +kernel
theorem dX8_aspects_47 : decode cX8_aspects 47 = .ok (.ifCond .le 106, 3) := by decide +kernel
theorem dX8_aspects_50 : decode cX8_aspects 50 = .ok (.aload_n 0, 1) := by decide +kernel
theorem dX8_aspects_51 : decode cX8_aspects 51 = .ok (.getfield 31, 3) := by decide +kernel
theorem dX8_aspects_54 : decode cX8_aspects 54 = .ok (.iload 5, 2) := by decide +kernel
theorem dX8_aspects_56 : decode cX8_aspects 56 = .ok (.iaload, 1) := by decide +kernel
theorem dX8_aspects_57 : decode cX8_aspects 57 = .ok (.aload_n 0, 1) := by decide +kernel
theorem dX8_aspects_58 : decode cX8_aspects 58 = .ok (.getfield 34, 3) := by decide +kernel
theorem dX8_aspects_61 : decode cX8_aspects 61 = .ok (.iload 5, 2) := by decide +kernel
theorem dX8_aspects_63 : decode cX8_aspects 63 = .ok (.iaload, 1) := by decide +kernel
theorem dX8_aspects_64 : decode cX8_aspects 64 = .ok (.if_icmp .le 13, 3) := by decide +kernel
theorem dX8_aspects_67 : decode cX8_aspects 67 = .ok (.aload_n 0, 1) := by decide +kernel
theorem dX8_aspects_68 : decode cX8_aspects 68 = .ok (.getfield 31, 3) := by decide +kernel
theorem dX8_aspects_71 : decode cX8_aspects 71 = .ok (.iload 5, 2) := by decide +kernel
theorem dX8_aspects_73 : decode cX8_aspects 73 = .ok (.iaload, 1) := by decide +kernel
theorem dX8_aspects_74 : decode cX8_aspects 74 = .ok (.goto 10, 3) := by decide +kernel
theorem dX8_aspects_77 : decode cX8_aspects 77 = .ok (.aload_n 0, 1) := by decide +kernel
theorem dX8_aspects_78 : decode cX8_aspects 78 = .ok (.getfield 34, 3) := by decide +kernel
theorem dX8_aspects_81 : decode cX8_aspects 81 = .ok (.iload 5, 2) := by decide +kernel
theorem dX8_aspects_83 : decode cX8_aspects 83 = .ok (.iaload, 1) := by decide +kernel
theorem dX8_aspects_84 : decode cX8_aspects 84 = .ok (.istore 6, 2) := by decide +kernel
theorem dX8_aspects_86 : decode cX8_aspects 86 = .ok (.aload_n 0, 1) := by decide +kernel
theorem dX8_aspects_87 : decode cX8_aspects 87 = .ok (.getfield 31, 3) := by decide +kernel
theorem dX8_aspects_90 : decode cX8_aspects 90 = .ok (.iload 5, 2) := by decide +kernel
theorem dX8_aspects_92 : decode cX8_aspects 92 = .ok (.iaload, 1) := by decide +kernel
theorem dX8_aspects_93 : decode cX8_aspects 93 = .ok (.aload_n 0, 1) := by decide +kernel
theorem dX8_aspects_94 : decode cX8_aspects 94 = .ok (.getfield 34, 3) := by decide +kernel
theorem dX8_aspects_97 : decode cX8_aspects 97 = .ok (.iload 5, 2) := by decide +kernel
theorem dX8_aspects_99 : decode cX8_aspects 99 = .ok (.iaload, 1) := by decide +kernel
theorem dX8_aspects_100 : decode cX8_aspects 100 = .ok (.if_icmp .le 13, 3) := by decide +kernel
theorem dX8_aspects_103 : decode cX8_aspects 103 = .ok (.aload_n 0, 1) := by decide +kernel
theorem dX8_aspects_104 : decode cX8_aspects 104 = .ok (.getfield 34, 3) := by decide +kernel
theorem dX8_aspects_107 : decode cX8_aspects 107 = .ok (.iload 5, 2) := by decide +kernel
theorem dX8_aspects_109 : decode cX8_aspects 109 = .ok (.iaload, 1) := by decide +kernel
theorem dX8_aspects_110 : decode cX8_aspects 110 = .ok (.goto 10, 3) := by decide +kernel
theorem dX8_aspects_113 : decode cX8_aspects 113 = .ok (.aload_n 0, 1) := by decide +kernel
theorem dX8_aspects_114 : decode cX8_aspects 114 = .ok (.getfield 31, 3) := by decide +kernel
theorem dX8_aspects_117 : decode cX8_aspects 117 = .ok (.iload 5, 2) := by decide +kernel
theorem dX8_aspects_119 : decode cX8_aspects 119 = .ok (.iaload, 1) := by decide +kernel
theorem dX8_aspects_120 : decode cX8_aspects 120 = .ok (.istore 7, 2) := by decide +kernel
theorem dX8_aspects_122 : decode cX8_aspects 122 = .ok (.iload 6, 2) := by decide +kernel
theorem dX8_aspects_124 : decode cX8_aspects 124 = .ok (.i2f, 1) := by decide +kernel
theorem dX8_aspects_125 : decode cX8_aspects 125 = .ok (.iload 7, 2) := by decide +kernel
theorem dX8_aspects_127 : decode cX8_aspects 127 = .ok (.i2f, 1) := by decide +kernel
theorem dX8_aspects_128 : decode cX8_aspects 128 = .ok (.fdiv, 1) := by decide +kernel
theorem dX8_aspects_129 : decode cX8_aspects 129 = .ok (.fstore 8, 2) := by decide +kernel
theorem dX8_aspects_131 : decode cX8_aspects 131 = .ok (.fload 8, 2) := by decide +kernel
theorem dX8_aspects_133 : decode cX8_aspects 133 = .ok (.fload_n 2, 1) := by decide +kernel
theorem dX8_aspects_134 : decode cX8_aspects 134 = .ok (.fcmp .l, 1) := by decide +kernel
theorem dX8_aspects_135 : decode cX8_aspects 135 = .ok (.ifCond .le 8, 3) := by decide +kernel
theorem dX8_aspects_138 : decode cX8_aspects 138 = .ok (.fload 8, 2) := by decide +kernel
theorem dX8_aspects_140 : decode cX8_aspects 140 = .ok (.goto 4, 3) := by decide +kernel
theorem dX8_aspects_143 : decode cX8_aspects 143 = .ok (.fload_n 2, 1) := by decide +kernel
theorem dX8_aspects_144 : decode cX8_aspects 144 = .ok (.fstore_n 2, 1) := by decide +kernel
theorem dX8_aspects_145 : decode cX8_aspects 145 = .ok (.fload_n 3, 1) := by decide +kernel
theorem dX8_aspects_146 : decode cX8_aspects 146 = .ok (.fload 8, 2) := by decide +kernel
theorem dX8_aspects_148 : decode cX8_aspects 148 = .ok (.fadd, 1) := by decide +kernel
theorem dX8_aspects_149 : decode cX8_aspects 149 = .ok (.fstore_n 3, 1) := by decide +kernel
theorem dX8_aspects_150 : decode cX8_aspects 150 = .ok (.iinc 4 1, 3) := by decide +kernel
theorem dX8_aspects_153 : decode cX8_aspects 153 = .ok (.iinc 5 1, 3) := by decide +kernel
theorem dX8_aspects_156 : decode cX8_aspects 156 = .ok (.goto (-146), 3) := by decide +kernel
theorem dX8_aspects_159 : decode cX8_aspects 159 = .ok (.iload 4, 2) := by decide +kernel
theorem dX8_aspects_161 : decode cX8_aspects 161 = .ok (.ifCond .ne 7, 3) := by decide +kernel
theorem dX8_aspects_164 : decode cX8_aspects 164 = .ok (.iconst (-1), 1) := by decide +kernel
theorem dX8_aspects_165 : decode cX8_aspects 165 = .ok (.goto 19, 3) := by decide +kernel
theorem dX8_aspects_168 : decode cX8_aspects 168 = .ok (.iload_n 1, 1) := by decide +kernel
theorem dX8_aspects_169 : decode cX8_aspects 169 = .ok (.ifCond .eq 7, 3) := by decide +kernel
theorem dX8_aspects_172 : decode cX8_aspects 172 = .ok (.fload_n 2, 1) := by decide +kernel
theorem dX8_aspects_173 : decode cX8_aspects 173 = .ok (.goto 8, 3) := by decide +kernel
theorem dX8_aspects_176 : decode cX8_aspects 176 = .ok (.fload_n 3, 1) := by decide +kernel
theorem dX8_aspects_177 : decode cX8_aspects 177 = .ok (.iload 4, 2) := by decide +kernel
theorem dX8_aspects_179 : decode cX8_aspects 179 = .ok (.i2f, 1) := by decide +kernel
theorem dX8_aspects_180 : decode cX8_aspects 180 = .ok (.fdiv, 1) := by decide +kernel
theorem dX8_aspects_181 : decode cX8_aspects 181 = .ok (.invokestatic 155, 3) := by decide +kernel
theorem dX8_aspects_184 : decode cX8_aspects 184 = .ok (.ireturn, 1) := by decide +kernel
set_option maxRecDepth 20000 in
theorem ggX8_worstAspect_X8_lays : GoodIn wsX8_worstAspect wsX8_lays := goodIn_r _ [5, 6, 7, 8, 9, 10, 11, 4, 12, 13, 14, 15, 16, 17, 18, 19, 20, 21, 22, 23, 24, 25, 26, 27, 28, 29, 30, 31, 32, 33, 34, 35, 36, 37, 38, 39, 40, 41, 42, 43, 44, 45, 46, 47, 48, 49, 50, 51, 52, 53, 54, 55, 56, 57, 58, 59, 60, 61, 62, 63, 64, 65, 66, 67, 68, 69, 70, 71, 72, 73, 74, 75, 76, 77, 78, 79, 80, 81, 82, 83, 84, 85, 86, 87, 88, 89, 90, 107, 108, 109, 110, 111, 112, 113, 114, 115, 116, 117, 118, 119, 120, 121, 122, 123, 124] (by decide +kernel) (by decide +kernel)
set_option maxRecDepth 20000 in
theorem gX8_worstAspect_X8_lays : GoodIn wsX8_worstAspect (wsV RX8 149 RX8 yX8_lays wsX8_lays) := goodIn_app (goodIn_of _ (by decide +kernel)) ggX8_worstAspect_X8_lays
set_option maxRecDepth 20000 in
theorem ggX8_worstAspect_X8_aspects : GoodIn wsX8_worstAspect wsX8_aspects := goodIn_r _ [94, 6, 27, 28, 13, 14, 15, 4, 16, 95, 96, 97, 98, 99, 100, 101, 102, 103, 104, 105, 106, 107, 108, 109, 110, 111, 112, 113, 114, 115, 116, 117, 118, 119, 120, 121, 122, 123, 124] (by decide +kernel) (by decide +kernel)
set_option maxRecDepth 20000 in
theorem gX8_worstAspect_X8_aspects : GoodIn wsX8_worstAspect (wsV RX8 161 RX8 yX8_aspects wsX8_aspects) := goodIn_app (goodIn_of _ (by decide +kernel)) ggX8_worstAspect_X8_aspects
theorem dX8_worstAspect_0 : decode cX8_worstAspect 0 = .ok (.aload_n 0, 1) := by decide +kernel
theorem dX8_worstAspect_1 : decode cX8_worstAspect 1 = .ok (.invokevirtual 149, 3) := by decide +kernel
theorem dX8_worstAspect_4 : decode cX8_worstAspect 4 = .ok (.aload_n 0, 1) := by decide +kernel
theorem dX8_worstAspect_5 : decode cX8_worstAspect 5 = .ok (.iconst 1, 1) := by decide +kernel
theorem dX8_worstAspect_6 : decode cX8_worstAspect 6 = .ok (.invokevirtual 161, 3) := by decide +kernel
theorem dX8_worstAspect_9 : decode cX8_worstAspect 9 = .ok (.ireturn, 1) := by decide +kernel
set_option maxRecDepth 20000 in
theorem ggX8_averageAspect_X8_lays : GoodIn wsX8_averageAspect wsX8_lays := goodIn_r _ [5, 6, 7, 8, 9, 10, 11, 4, 12, 13, 14, 15, 16, 17, 18, 19, 20, 21, 22, 23, 24, 25, 26, 27, 28, 29, 30, 31, 32, 33, 34, 35, 36, 37, 38, 39, 40, 41, 42, 43, 44, 45, 46, 47, 48, 49, 50, 51, 52, 53, 54, 55, 56, 57, 58, 59, 60, 61, 62, 63, 64, 65, 66, 67, 68, 69, 70, 71, 72, 73, 74, 75, 76, 77, 78, 79, 80, 81, 82, 83, 84, 85, 86, 87, 88, 89, 90, 107, 108, 109, 110, 111, 112, 113, 114, 115, 116, 117, 118, 119, 120, 121, 122, 123, 124] (by decide +kernel) (by decide +kernel)
set_option maxRecDepth 20000 in
theorem gX8_averageAspect_X8_lays : GoodIn wsX8_averageAspect (wsV RX8 149 RX8 yX8_lays wsX8_lays) := goodIn_app (goodIn_of _ (by decide +kernel)) ggX8_averageAspect_X8_lays
set_option maxRecDepth 20000 in
theorem ggX8_averageAspect_X8_aspects : GoodIn wsX8_averageAspect wsX8_aspects := goodIn_r _ [94, 6, 27, 28, 13, 14, 15, 4, 16, 95, 96, 97, 98, 99, 100, 101, 102, 103, 104, 105, 106, 107, 108, 109, 110, 111, 112, 113, 114, 115, 116, 117, 118, 119, 120, 121, 122, 123, 124] (by decide +kernel) (by decide +kernel)
set_option maxRecDepth 20000 in
theorem gX8_averageAspect_X8_aspects : GoodIn wsX8_averageAspect (wsV RX8 161 RX8 yX8_aspects wsX8_aspects) := goodIn_app (goodIn_of _ (by decide +kernel)) ggX8_averageAspect_X8_aspects
theorem dX8_averageAspect_0 : decode cX8_averageAspect 0 = .ok (.aload_n 0, 1) := by decide +kernel
theorem dX8_averageAspect_1 : decode cX8_averageAspect 1 = .ok (.invokevirtual 149, 3) := by decide +kernel
theorem dX8_averageAspect_4 : decode cX8_averageAspect 4 = .ok (.aload_n 0, 1) := by decide +kernel
theorem dX8_averageAspect_5 : decode cX8_averageAspect 5 = .ok (.iconst 0, 1) := by decide +kernel
theorem dX8_averageAspect_6 : decode cX8_averageAspect 6 = .ok (.invokevirtual 161, 3) := by decide +kernel
theorem dX8_averageAspect_9 : decode cX8_averageAspect 9 = .ok (.ireturn, 1) := by decide +kernel
theorem dX8_far_0 : decode cX8_far 0 = .ok (.iload_n 0, 1) := by decide +kernel
end
section
theorem dX8_far_1 : decode cX8_far 1 = .ok (.ifCond .ge 8, 3) := by decide +kernel
theorem dX8_far_4 : decode cX8_far 4 = .ok (.iload_n 0, 1) := by decide +kernel
theorem dX8_far_5 : decode cX8_far 5 = .ok (.ineg, 1) := by decide +kernel
theorem dX8_far_6 : decode cX8_far 6 = .ok (.goto 4, 3) := by decide +kernel
theorem dX8_far_9 : decode cX8_far 9 = .ok (.iload_n 0, 1) := by decide +kernel
theorem dX8_far_10 : decode cX8_far 10 = .ok (.ireturn, 1) := by decide +kernel
set_option maxRecDepth 20000 in
theorem ggX8_changeBy_X8_isNode : GoodIn wsX8_changeBy wsX8_isNode := goodIn_r _ [11, 1, 12, 13, 10, 14, 107, 108, 109, 110, 111, 112, 113, 114, 115, 116, 117, 118, 119, 120, 121, 122, 123, 124] (by decide +kernel) (by decide +kernel)
set_option maxRecDepth 20000 in
theorem gX8_changeBy_X8_isNode : GoodIn wsX8_changeBy (wsV RX8 75 RX8 yX8_isNode wsX8_isNode) := goodIn_app (goodIn_of _ (by decide +kernel)) ggX8_changeBy_X8_isNode
set_option maxRecDepth 20000 in
theorem ggX8_changeBy_X8_within : GoodIn wsX8_changeBy wsX8_within := goodIn_r _ [14] (by decide +kernel) (by decide +kernel)
set_option maxRecDepth 20000 in
theorem gX8_changeBy_X8_within : GoodIn wsX8_changeBy (va_wsS RX8 56 yX8_within wsX8_within) := goodIn_app (goodIn_of _ (by decide +kernel)) ggX8_changeBy_X8_within
set_option maxRecDepth 20000 in
theorem ggX8_changeBy_X8_fails : GoodIn wsX8_changeBy wsX8_fails := goodIn_r _ [18, 19, 107, 108, 109, 110, 111, 112, 113, 114, 115, 116, 117, 118, 119, 120, 121, 122, 123, 124] (by decide +kernel) (by decide +kernel)
set_option maxRecDepth 20000 in
theorem gX8_changeBy_X8_fails : GoodIn wsX8_changeBy (wsV RX8 64 RX8 yX8_fails wsX8_fails) := goodIn_app (goodIn_of _ (by decide +kernel)) ggX8_changeBy_X8_fails
set_option maxRecDepth 20000 in
theorem ggX8_changeBy_X8_lays : GoodIn wsX8_changeBy wsX8_lays := goodIn_r _ [23, 1, 24, 25, 26, 27, 28, 10, 29, 30, 31, 32, 33, 34, 35, 36, 37, 38, 39, 40, 41, 3, 4, 5, 6, 42, 43, 44, 45, 46, 47, 48, 49, 50, 51, 52, 53, 54, 55, 56, 57, 58, 59, 60, 61, 62, 63, 64, 65, 66, 67, 68, 69, 70, 71, 72, 73, 74, 75, 76, 77, 78, 79, 80, 81, 82, 83, 84, 85, 86, 87, 88, 89, 90, 91, 92, 93, 94, 95, 96, 97, 98, 99, 100, 101, 102, 103, 107, 108, 109, 110, 111, 112, 113, 114, 115, 116, 117, 118, 119, 120, 121, 122, 123, 124] (by decide +kernel) (by decide +kernel)
set_option maxRecDepth 20000 in
theorem gX8_changeBy_X8_lays : GoodIn wsX8_changeBy (wsV RX8 149 RX8 yX8_lays wsX8_lays) := goodIn_app (goodIn_of _ (by decide +kernel)) ggX8_changeBy_X8_lays
set_option maxRecDepth 20000 in
theorem ggX8_changeBy_X8_far : GoodIn wsX8_changeBy wsX8_far := goodIn_r _ [106] (by decide +kernel) (by decide +kernel)
set_option maxRecDepth 20000 in
theorem gX8_changeBy_X8_far : GoodIn wsX8_changeBy (va_wsS RX8 165 yX8_far wsX8_far) := goodIn_app (goodIn_of _ (by decide +kernel)) ggX8_changeBy_X8_far
theorem dX8_changeBy_0 : decode cX8_changeBy 0 = .ok (.aload_n 0, 1) := by decide +kernel
theorem dX8_changeBy_1 : decode cX8_changeBy 1 = .ok (.iload_n 1, 1) := by decide +kernel
theorem dX8_changeBy_2 : decode cX8_changeBy 2 = .ok (.invokevirtual 75, 3) := by decide +kernel
theorem dX8_changeBy_5 : decode cX8_changeBy 5 = .ok (.ifCond .eq 13, 3) := by decide +kernel
theorem dX8_changeBy_8 : decode cX8_changeBy 8 = .ok (.iload_n 2, 1) := by decide +kernel
theorem dX8_changeBy_9 : decode cX8_changeBy 9 = .ok (.iconst 1, 1) := by decide +kernel
theorem dX8_changeBy_10 : decode cX8_changeBy 10 = .ok (.bipush 99, 2) := by decide +kernel
theorem dX8_changeBy_12 : decode cX8_changeBy 12 = .ok (.invokestatic 56, 3) := by decide +kernel
theorem dX8_changeBy_15 : decode cX8_changeBy 15 = .ok (.ifCond .ne 10, 3) := by decide +kernel
theorem dX8_changeBy_18 : decode cX8_changeBy 18 = .ok (.aload_n 0, 1) := by decide +kernel
theorem dX8_changeBy_19 : decode cX8_changeBy 19 = .ok (.bipush (-2), 2) := by decide +kernel
theorem dX8_changeBy_21 : decode cX8_changeBy 21 = .ok (.invokevirtual 64, 3) := by decide +kernel
theorem dX8_changeBy_24 : decode cX8_changeBy 24 = .ok (.ireturn, 1) := by decide +kernel
theorem dX8_changeBy_25 : decode cX8_changeBy 25 = .ok (.aload_n 0, 1) := by decide +kernel
theorem dX8_changeBy_26 : decode cX8_changeBy 26 = .ok (.invokevirtual 149, 3) := by decide +kernel
theorem dX8_changeBy_29 : decode cX8_changeBy 29 = .ok (.iconst 0, 1) := by decide +kernel
theorem dX8_changeBy_30 : decode cX8_changeBy 30 = .ok (.istore_n 3, 1) := by decide +kernel
theorem dX8_changeBy_31 : decode cX8_changeBy 31 = .ok (.iload_n 3, 1) := by decide +kernel
theorem dX8_changeBy_32 : decode cX8_changeBy 32 = .ok (.aload_n 0, 1) := by decide +kernel
theorem dX8_changeBy_33 : decode cX8_changeBy 33 = .ok (.getfield 7, 3) := by decide +kernel
theorem dX8_changeBy_36 : decode cX8_changeBy 36 = .ok (.iconst 0, 1) := by decide +kernel
theorem dX8_changeBy_37 : decode cX8_changeBy 37 = .ok (.iaload, 1) := by decide +kernel
theorem dX8_changeBy_38 : decode cX8_changeBy 38 = .ok (.if_icmp .ge 71, 3) := by decide +kernel
theorem dX8_changeBy_41 : decode cX8_changeBy 41 = .ok (.aload_n 0, 1) := by decide +kernel
theorem dX8_changeBy_42 : decode cX8_changeBy 42 = .ok (.getfield 53, 3) := by decide +kernel
theorem dX8_changeBy_45 : decode cX8_changeBy 45 = .ok (.iconst 4, 1) := by decide +kernel
theorem dX8_changeBy_46 : decode cX8_changeBy 46 = .ok (.iload_n 3, 1) := by decide +kernel
theorem dX8_changeBy_47 : decode cX8_changeBy 47 = .ok (.imul, 1) := by decide +kernel
theorem dX8_changeBy_48 : decode cX8_changeBy 48 = .ok (.aload_n 0, 1) := by decide +kernel
theorem dX8_changeBy_49 : decode cX8_changeBy 49 = .ok (.getfield 25, 3) := by decide +kernel
theorem dX8_changeBy_52 : decode cX8_changeBy 52 = .ok (.iload_n 3, 1) := by decide +kernel
theorem dX8_changeBy_53 : decode cX8_changeBy 53 = .ok (.iaload, 1) := by decide +kernel
theorem dX8_changeBy_54 : decode cX8_changeBy 54 = .ok (.iastore, 1) := by decide +kernel
theorem dX8_changeBy_55 : decode cX8_changeBy 55 = .ok (.aload_n 0, 1) := by decide +kernel
theorem dX8_changeBy_56 : decode cX8_changeBy 56 = .ok (.getfield 53, 3) := by decide +kernel
theorem dX8_changeBy_59 : decode cX8_changeBy 59 = .ok (.iconst 4, 1) := by decide +kernel
theorem dX8_changeBy_60 : decode cX8_changeBy 60 = .ok (.iload_n 3, 1) := by decide +kernel
theorem dX8_changeBy_61 : decode cX8_changeBy 61 = .ok (.imul, 1) := by decide +kernel
theorem dX8_changeBy_62 : decode cX8_changeBy 62 = .ok (.iconst 1, 1) := by decide +kernel
theorem dX8_changeBy_63 : decode cX8_changeBy 63 = .ok (.iadd, 1) := by decide +kernel
theorem dX8_changeBy_64 : decode cX8_changeBy 64 = .ok (.aload_n 0, 1) := by decide +kernel
theorem dX8_changeBy_65 : decode cX8_changeBy 65 = .ok (.getfield 28, 3) := by decide +kernel
theorem dX8_changeBy_68 : decode cX8_changeBy 68 = .ok (.iload_n 3, 1) := by decide +kernel
theorem dX8_changeBy_69 : decode cX8_changeBy 69 = .ok (.iaload, 1) := by decide +kernel
theorem dX8_changeBy_70 : decode cX8_changeBy 70 = .ok (.iastore, 1) := by decide +kernel
theorem dX8_changeBy_71 : decode cX8_changeBy 71 = .ok (.aload_n 0, 1) := by decide +kernel
theorem dX8_changeBy_72 : decode cX8_changeBy 72 = .ok (.getfield 53, 3) := by decide +kernel
theorem dX8_changeBy_75 : decode cX8_changeBy 75 = .ok (.iconst 4, 1) := by decide +kernel
theorem dX8_changeBy_76 : decode cX8_changeBy 76 = .ok (.iload_n 3, 1) := by decide +kernel
theorem dX8_changeBy_77 : decode cX8_changeBy 77 = .ok (.imul, 1) := by decide +kernel
theorem dX8_changeBy_78 : decode cX8_changeBy 78 = .ok (.iconst 2, 1) := by decide +kernel
theorem dX8_changeBy_79 : decode cX8_changeBy 79 = .ok (.iadd, 1) := by decide +kernel
theorem dX8_changeBy_80 : decode cX8_changeBy 80 = .ok (.aload_n 0, 1) := by decide +kernel
theorem dX8_changeBy_81 : decode cX8_changeBy 81 = .ok (.getfield 31, 3) := by decide +kernel
theorem dX8_changeBy_84 : decode cX8_changeBy 84 = .ok (.iload_n 3, 1) := by decide +kernel
theorem dX8_changeBy_85 : decode cX8_changeBy 85 = .ok (.iaload, 1) := by decide +kernel
theorem dX8_changeBy_86 : decode cX8_changeBy 86 = .ok (.iastore, 1) := by decide +kernel
theorem dX8_changeBy_87 : decode cX8_changeBy 87 = .ok (.aload_n 0, 1) := by decide +kernel
theorem dX8_changeBy_88 : decode cX8_changeBy 88 = .ok (.getfield 53, 3) := by decide +kernel
theorem dX8_changeBy_91 : decode cX8_changeBy 91 = .ok (.iconst 4, 1) := by decide +kernel
theorem dX8_changeBy_92 : decode cX8_changeBy 92 = .ok (.iload_n 3, 1) := by decide +kernel
theorem dX8_changeBy_93 : decode cX8_changeBy 93 = .ok (.imul, 1) := by decide +kernel
theorem dX8_changeBy_94 : decode cX8_changeBy 94 = .ok (.iconst 3, 1) := by decide +kernel
theorem dX8_changeBy_95 : decode cX8_changeBy 95 = .ok (.iadd, 1) := by decide +kernel
theorem dX8_changeBy_96 : decode cX8_changeBy 96 = .ok (.aload_n 0, 1) := by decide +kernel
theorem dX8_changeBy_97 : decode cX8_changeBy 97 = .ok (.getfield 34, 3) := by decide +kernel
theorem dX8_changeBy_100 : decode cX8_changeBy 100 = .ok (.iload_n 3, 1) := by decide +kernel
theorem dX8_changeBy_101 : decode cX8_changeBy 101 = .ok (.iaload, 1) := by decide +kernel
theorem dX8_changeBy_102 : decode cX8_changeBy 102 = .ok (.iastore, 1) := by decide +kernel
theorem dX8_changeBy_103 : decode cX8_changeBy 103 = .ok (.iinc 3 1, 3) := by decide +kernel
theorem dX8_changeBy_106 : decode cX8_changeBy 106 = .ok (.goto (-75), 3) := by decide +kernel
theorem dX8_changeBy_109 : decode cX8_changeBy 109 = .ok (.aload_n 0, 1) := by decide +kernel
theorem dX8_changeBy_110 : decode cX8_changeBy 110 = .ok (.getfield 7, 3) := by decide +kernel
theorem dX8_changeBy_113 : decode cX8_changeBy 113 = .ok (.iconst 5, 1) := by decide +kernel
theorem dX8_changeBy_114 : decode cX8_changeBy 114 = .ok (.iload_n 1, 1) := by decide +kernel
theorem dX8_changeBy_115 : decode cX8_changeBy 115 = .ok (.iadd, 1) := by decide +kernel
theorem dX8_changeBy_116 : decode cX8_changeBy 116 = .ok (.iaload, 1) := by decide +kernel
theorem dX8_changeBy_117 : decode cX8_changeBy 117 = .ok (.istore_n 3, 1) := by decide +kernel
theorem dX8_changeBy_118 : decode cX8_changeBy 118 = .ok (.aload_n 0, 1) := by decide +kernel
theorem dX8_changeBy_119 : decode cX8_changeBy 119 = .ok (.getfield 7, 3) := by decide +kernel
theorem dX8_changeBy_122 : decode cX8_changeBy 122 = .ok (.iconst 5, 1) := by decide +kernel
theorem dX8_changeBy_123 : decode cX8_changeBy 123 = .ok (.iload_n 1, 1) := by decide +kernel
theorem dX8_changeBy_124 : decode cX8_changeBy 124 = .ok (.iadd, 1) := by decide +kernel
theorem dX8_changeBy_125 : decode cX8_changeBy 125 = .ok (.iload_n 2, 1) := by decide +kernel
theorem dX8_changeBy_126 : decode cX8_changeBy 126 = .ok (.iastore, 1) := by decide +kernel
theorem dX8_changeBy_127 : decode cX8_changeBy 127 = .ok (.aload_n 0, 1) := by decide +kernel
theorem dX8_changeBy_128 : decode cX8_changeBy 128 = .ok (.invokevirtual 149, 3) := by decide +kernel
theorem dX8_changeBy_131 : decode cX8_changeBy 131 = .ok (.aload_n 0, 1) := by decide +kernel
theorem dX8_changeBy_132 : decode cX8_changeBy 132 = .ok (.getfield 7, 3) := by decide +kernel
theorem dX8_changeBy_135 : decode cX8_changeBy 135 = .ok (.iconst 5, 1) := by decide +kernel
theorem dX8_changeBy_136 : decode cX8_changeBy 136 = .ok (.iload_n 1, 1) := by decide +kernel
theorem dX8_changeBy_137 : decode cX8_changeBy 137 = .ok (.iadd, 1) := by decide +kernel
theorem dX8_changeBy_138 : decode cX8_changeBy 138 = .ok (.iload_n 3, 1) := by decide +kernel
theorem dX8_changeBy_139 : decode cX8_changeBy 139 = .ok (.iastore, 1) := by decide +kernel
theorem dX8_changeBy_140 : decode cX8_changeBy 140 = .ok (.iconst 0, 1) := by decide +kernel
theorem dX8_changeBy_141 : decode cX8_changeBy 141 = .ok (.istore 4, 2) := by decide +kernel
theorem dX8_changeBy_143 : decode cX8_changeBy 143 = .ok (.iconst 0, 1) := by decide +kernel
theorem dX8_changeBy_144 : decode cX8_changeBy 144 = .ok (.istore 5, 2) := by decide +kernel
theorem dX8_changeBy_146 : decode cX8_changeBy 146 = .ok (.iload 5, 2) := by decide +kernel
theorem dX8_changeBy_148 : decode cX8_changeBy 148 = .ok (.aload_n 0, 1) := by decide +kernel
theorem dX8_changeBy_149 : decode cX8_changeBy 149 = .ok (.getfield 7, 3) := by decide +kernel
theorem dX8_changeBy_152 : decode cX8_changeBy 152 = .ok (.iconst 0, 1) := by decide +kernel
theorem dX8_changeBy_153 : decode cX8_changeBy 153 = .ok (.iaload, 1) := by decide +kernel
theorem dX8_changeBy_154 : decode cX8_changeBy 154 = .ok (.if_icmp .ge 103, 3) := by decide +kernel
theorem dX8_changeBy_157 : decode cX8_changeBy 157 = .ok (.iload 4, 2) := by decide +kernel
theorem dX8_changeBy_159 : decode cX8_changeBy 159 = .ok (.aload_n 0, 1) := by decide +kernel
theorem dX8_changeBy_160 : decode cX8_changeBy 160 = .ok (.getfield 25, 3) := by decide +kernel
theorem dX8_changeBy_163 : decode cX8_changeBy 163 = .ok (.iload 5, 2) := by decide +kernel
theorem dX8_changeBy_165 : decode cX8_changeBy 165 = .ok (.iaload, 1) := by decide +kernel
theorem dX8_changeBy_166 : decode cX8_changeBy 166 = .ok (.aload_n 0, 1) := by decide +kernel
theorem dX8_changeBy_167 : decode cX8_changeBy 167 = .ok (.getfield 53, 3) := by decide +kernel
theorem dX8_changeBy_170 : decode cX8_changeBy 170 = .ok (.iconst 4, 1) := by decide +kernel
theorem dX8_changeBy_171 : decode cX8_changeBy 171 = .ok (.iload 5, 2) := by decide +kernel
theorem dX8_changeBy_173 : decode cX8_changeBy 173 = .ok (.imul, 1) := by decide +kernel
theorem dX8_changeBy_174 : decode cX8_changeBy 174 = .ok (.iaload, 1) := by decide +kernel
theorem dX8_changeBy_175 : decode cX8_changeBy 175 = .ok (.isub, 1) := by decide +kernel
theorem dX8_changeBy_176 : decode cX8_changeBy 176 = .ok (.invokestatic 165, 3) := by decide +kernel
theorem dX8_changeBy_179 : decode cX8_changeBy 179 = .ok (.aload_n 0, 1) := by decide +kernel
theorem dX8_changeBy_180 : decode cX8_changeBy 180 = .ok (.getfield 28, 3) := by decide +kernel
theorem dX8_changeBy_183 : decode cX8_changeBy 183 = .ok (.iload 5, 2) := by decide +kernel
theorem dX8_changeBy_185 : decode cX8_changeBy 185 = .ok (.iaload, 1) := by decide +kernel
theorem dX8_changeBy_186 : decode cX8_changeBy 186 = .ok (.aload_n 0, 1) := by decide +kernel
theorem dX8_changeBy_187 : decode cX8_changeBy 187 = .ok (.getfield 53, 3) := by decide +kernel
theorem dX8_changeBy_190 : decode cX8_changeBy 190 = .ok (.iconst 4, 1) := by decide +kernel
theorem dX8_changeBy_191 : decode cX8_changeBy 191 = .ok (.iload 5, 2) := by decide +kernel
theorem dX8_changeBy_193 : decode cX8_changeBy 193 = .ok (.imul, 1) := by decide +kernel
theorem dX8_changeBy_194 : decode cX8_changeBy 194 = .ok (.iconst 1, 1) := by decide +kernel
theorem dX8_changeBy_195 : decode cX8_changeBy 195 = .ok (.iadd, 1) := by decide +kernel
theorem dX8_changeBy_196 : decode cX8_changeBy 196 = .ok (.iaload, 1) := by decide +kernel
theorem dX8_changeBy_197 : decode cX8_changeBy 197 = .ok (.isub, 1) := by decide +kernel
theorem dX8_changeBy_198 : decode cX8_changeBy 198 = .ok (.invokestatic 165, 3) := by decide +kernel
theorem dX8_changeBy_201 : decode cX8_changeBy 201 = .ok (.iadd, 1) := by decide +kernel
theorem dX8_changeBy_202 : decode cX8_changeBy 202 = .ok (.aload_n 0, 1) := by decide +kernel
theorem dX8_changeBy_203 : decode cX8_changeBy 203 = .ok (.getfield 31, 3) := by decide +kernel
theorem dX8_changeBy_206 : decode cX8_changeBy 206 = .ok (.iload 5, 2) := by decide +kernel
theorem dX8_changeBy_208 : decode cX8_changeBy 208 = .ok (.iaload, 1) := by decide +kernel
theorem dX8_changeBy_209 : decode cX8_changeBy 209 = .ok (.aload_n 0, 1) := by decide +kernel
theorem dX8_changeBy_210 : decode cX8_changeBy 210 = .ok (.getfield 53, 3) := by decide +kernel
theorem dX8_changeBy_213 : decode cX8_changeBy 213 = .ok (.iconst 4, 1) := by decide +kernel
theorem dX8_changeBy_214 : decode cX8_changeBy 214 = .ok (.iload 5, 2) := by decide +kernel
theorem dX8_changeBy_216 : decode cX8_changeBy 216 = .ok (.imul, 1) := by decide +kernel
theorem dX8_changeBy_217 : decode cX8_changeBy 217 = .ok (.iconst 2, 1) := by decide +kernel
theorem dX8_changeBy_218 : decode cX8_changeBy 218 = .ok (.iadd, 1) := by decide +kernel
theorem dX8_changeBy_219 : decode cX8_changeBy 219 = .ok (.iaload, 1) := by decide +kernel
theorem dX8_changeBy_220 : decode cX8_changeBy 220 = .ok (.isub, 1) := by decide +kernel
theorem dX8_changeBy_221 : decode cX8_changeBy 221 = .ok (.invokestatic 165, 3) := by decide +kernel
theorem dX8_changeBy_224 : decode cX8_changeBy 224 = .ok (.iadd, 1) := by decide +kernel
theorem dX8_changeBy_225 : decode cX8_changeBy 225 = .ok (.aload_n 0, 1) := by decide +kernel
theorem dX8_changeBy_226 : decode cX8_changeBy 226 = .ok (.getfield 34, 3) := by decide +kernel
theorem dX8_changeBy_229 : decode cX8_changeBy 229 = .ok (.iload 5, 2) := by decide +kernel
theorem dX8_changeBy_231 : decode cX8_changeBy 231 = .ok (.iaload, 1) := by decide +kernel
theorem dX8_changeBy_232 : decode cX8_changeBy 232 = .ok (.aload_n 0, 1) := by decide +kernel
theorem dX8_changeBy_233 : decode cX8_changeBy 233 = .ok (.getfield 53, 3) := by decide +kernel
theorem dX8_changeBy_236 : decode cX8_changeBy 236 = .ok (.iconst 4, 1) := by decide +kernel
theorem dX8_changeBy_237 : decode cX8_changeBy 237 = .ok (.iload 5, 2) := by decide +kernel
theorem dX8_changeBy_239 : decode cX8_changeBy 239 = .ok (.imul, 1) := by decide +kernel
theorem dX8_changeBy_240 : decode cX8_changeBy 240 = .ok (.iconst 3, 1) := by decide +kernel
theorem dX8_changeBy_241 : decode cX8_changeBy 241 = .ok (.iadd, 1) := by decide +kernel
theorem dX8_changeBy_242 : decode cX8_changeBy 242 = .ok (.iaload, 1) := by decide +kernel
theorem dX8_changeBy_243 : decode cX8_changeBy 243 = .ok (.isub, 1) := by decide +kernel
theorem dX8_changeBy_244 : decode cX8_changeBy 244 = .ok (.invokestatic 165, 3) := by decide +kernel
theorem dX8_changeBy_247 : decode cX8_changeBy 247 = .ok (.iadd, 1) := by decide +kernel
theorem dX8_changeBy_248 : decode cX8_changeBy 248 = .ok (.iadd, 1) := by decide +kernel
theorem dX8_changeBy_249 : decode cX8_changeBy 249 = .ok (.istore 4, 2) := by decide +kernel
theorem dX8_changeBy_251 : decode cX8_changeBy 251 = .ok (.iinc 5 1, 3) := by decide +kernel
theorem dX8_changeBy_254 : decode cX8_changeBy 254 = .ok (.goto (-108), 3) := by decide +kernel
theorem dX8_changeBy_257 : decode cX8_changeBy 257 = .ok (.iload 4, 2) := by decide +kernel
theorem dX8_changeBy_259 : decode cX8_changeBy 259 = .ok (.ireturn, 1) := by decide +kernel
set_option maxRecDepth 20000 in
theorem ggX8_errorCount_X8_within : GoodIn wsX8_errorCount wsX8_within := goodIn_r _ [5] (by decide +kernel) (by decide +kernel)
set_option maxRecDepth 20000 in
theorem gX8_errorCount_X8_within : GoodIn wsX8_errorCount (va_wsS RX8 56 yX8_within wsX8_within) := goodIn_app (goodIn_of _ (by decide +kernel)) ggX8_errorCount_X8_within
set_option maxRecDepth 20000 in
theorem ggX8_errorCount_X8_fails : GoodIn wsX8_errorCount wsX8_fails := goodIn_r _ [9, 1, 10, 11, 12, 13, 14, 15, 16, 17, 18, 19, 20, 21, 22, 23, 24, 25, 26, 27] (by decide +kernel) (by decide +kernel)
set_option maxRecDepth 20000 in
theorem gX8_errorCount_X8_fails : GoodIn wsX8_errorCount (wsV RX8 64 RX8 yX8_fails wsX8_fails) := goodIn_app (goodIn_of _ (by decide +kernel)) ggX8_errorCount_X8_fails
theorem dX8_errorCount_0 : decode cX8_errorCount 0 = .ok (.iload_n 1, 1) := by decide +kernel
theorem dX8_errorCount_1 : decode cX8_errorCount 1 = .ok (.iconst 0, 1) := by decide +kernel
theorem dX8_errorCount_2 : decode cX8_errorCount 2 = .ok (.iconst 2, 1) := by decide +kernel
theorem dX8_errorCount_3 : decode cX8_errorCount 3 = .ok (.invokestatic 56, 3) := by decide +kernel
theorem dX8_errorCount_6 : decode cX8_errorCount 6 = .ok (.ifCond .eq 12, 3) := by decide +kernel
theorem dX8_errorCount_9 : decode cX8_errorCount 9 = .ok (.aload_n 0, 1) := by decide +kernel
theorem dX8_errorCount_10 : decode cX8_errorCount 10 = .ok (.getfield 16, 3) := by decide +kernel
theorem dX8_errorCount_13 : decode cX8_errorCount 13 = .ok (.iload_n 1, 1) := by decide +kernel
theorem dX8_errorCount_14 : decode cX8_errorCount 14 = .ok (.iaload, 1) := by decide +kernel
theorem dX8_errorCount_15 : decode cX8_errorCount 15 = .ok (.goto 9, 3) := by decide +kernel
theorem dX8_errorCount_18 : decode cX8_errorCount 18 = .ok (.aload_n 0, 1) := by decide +kernel
theorem dX8_errorCount_19 : decode cX8_errorCount 19 = .ok (.bipush (-2), 2) := by decide +kernel
theorem dX8_errorCount_21 : decode cX8_errorCount 21 = .ok (.invokevirtual 64, 3) := by decide +kernel
theorem dX8_errorCount_24 : decode cX8_errorCount 24 = .ok (.ireturn, 1) := by decide +kernel
theorem dX8_mix_0 : decode cX8_mix 0 = .ok (.aload_n 0, 1) := by decide +kernel
theorem dX8_mix_1 : decode cX8_mix 1 = .ok (.ldc2_w 168, 3) := by decide +kernel
theorem dX8_mix_4 : decode cX8_mix 4 = .ok (.aload_n 0, 1) := by decide +kernel
theorem dX8_mix_5 : decode cX8_mix 5 = .ok (.getfield 170, 3) := by decide +kernel
theorem dX8_mix_8 : decode cX8_mix 8 = .ok (.lmul, 1) := by decide +kernel
theorem dX8_mix_9 : decode cX8_mix 9 = .ok (.iload_n 1, 1) := by decide +kernel
theorem dX8_mix_10 : decode cX8_mix 10 = .ok (.i2l, 1) := by decide +kernel
theorem dX8_mix_11 : decode cX8_mix 11 = .ok (.ladd, 1) := by decide +kernel
theorem dX8_mix_12 : decode cX8_mix 12 = .ok (.putfield 170, 3) := by decide +kernel
theorem dX8_mix_15 : decode cX8_mix 15 = .ok (.return_, 1) := by decide +kernel
set_option maxRecDepth 20000 in
theorem ggX8_digest_X8_mix : GoodIn wsX8_digest wsX8_mix := goodIn_r _ [16, 17, 2, 120, 121, 122, 123, 124, 125, 126, 127, 128, 129, 130, 131, 132, 133, 134, 135, 136, 137] (by decide +kernel) (by decide +kernel)
set_option maxRecDepth 20000 in
theorem gX8_digest_X8_mix : GoodIn wsX8_digest (wsV RX8 176 RX8 yX8_mix wsX8_mix) := goodIn_app (goodIn_of _ (by decide +kernel)) ggX8_digest_X8_mix
set_option maxRecDepth 20000 in
theorem ggX8_digest_X8_lays : GoodIn wsX8_digest wsX8_lays := goodIn_r _ [21, 5, 6, 11, 22, 23, 24, 15, 25, 26, 27, 28, 29, 30, 31, 32, 33, 34, 35, 36, 37, 7, 8, 9, 10, 38, 39, 40, 41, 42, 43, 44, 45, 46, 47, 48, 49, 50, 51, 52, 53, 54, 55, 56, 57, 58, 59, 60, 61, 62, 63, 64, 65, 66, 67, 68, 69, 70, 71, 72, 73, 74, 75, 76, 77, 78, 79, 80, 81, 82, 83, 84, 85, 86, 87, 88, 89, 90, 91, 92, 93, 94, 95, 96, 97, 98, 99, 120, 121, 122, 123, 124, 125, 126, 127, 128, 129, 130, 131, 132, 133, 134, 135, 136, 137] (by decide +kernel) (by decide +kernel)
set_option maxRecDepth 20000 in
theorem gX8_digest_X8_lays : GoodIn wsX8_digest (wsV RX8 149 RX8 yX8_lays wsX8_lays) := goodIn_app (goodIn_of _ (by decide +kernel)) ggX8_digest_X8_lays
set_option maxRecDepth 20000 in
theorem ggX8_digest_X8_pixels : GoodIn wsX8_digest wsX8_pixels := goodIn_r _ [103, 5, 9, 10, 26, 27, 28, 15, 29, 120, 121, 122, 123, 124, 125, 126, 127, 128, 129, 130, 131, 132, 133, 134, 135, 136, 137] (by decide +kernel) (by decide +kernel)
set_option maxRecDepth 20000 in
theorem gX8_digest_X8_pixels : GoodIn wsX8_digest (wsV RX8 152 RX8 yX8_pixels wsX8_pixels) := goodIn_app (goodIn_of _ (by decide +kernel)) ggX8_digest_X8_pixels
set_option maxRecDepth 20000 in
theorem ggX8_digest_X8_aspects : GoodIn wsX8_digest wsX8_aspects := goodIn_r _ [107, 5, 9, 10, 26, 27, 28, 15, 29, 108, 109, 110, 111, 112, 113, 114, 115, 116, 117, 118, 119, 120, 121, 122, 123, 124, 125, 126, 127, 128, 129, 130, 131, 132, 133, 134, 135, 136, 137] (by decide +kernel) (by decide +kernel)
set_option maxRecDepth 20000 in
theorem gX8_digest_X8_aspects : GoodIn wsX8_digest (wsV RX8 161 RX8 yX8_aspects wsX8_aspects) := goodIn_app (goodIn_of _ (by decide +kernel)) ggX8_digest_X8_aspects
theorem dX8_digest_0 : decode cX8_digest 0 = .ok (.aload_n 0, 1) := by decide +kernel
theorem dX8_digest_1 : decode cX8_digest 1 = .ok (.ldc2_w 174, 3) := by decide +kernel
theorem dX8_digest_4 : decode cX8_digest 4 = .ok (.putfield 170, 3) := by decide +kernel
theorem dX8_digest_7 : decode cX8_digest 7 = .ok (.iconst 0, 1) := by decide +kernel
theorem dX8_digest_8 : decode cX8_digest 8 = .ok (.istore_n 1, 1) := by decide +kernel
theorem dX8_digest_9 : decode cX8_digest 9 = .ok (.iload_n 1, 1) := by decide +kernel
theorem dX8_digest_10 : decode cX8_digest 10 = .ok (.iconst 3, 1) := by decide +kernel
theorem dX8_digest_11 : decode cX8_digest 11 = .ok (.if_icmp .ge 19, 3) := by decide +kernel
theorem dX8_digest_14 : decode cX8_digest 14 = .ok (.aload_n 0, 1) := by decide +kernel
theorem dX8_digest_15 : decode cX8_digest 15 = .ok (.aload_n 0, 1) := by decide +kernel
theorem dX8_digest_16 : decode cX8_digest 16 = .ok (.getfield 16, 3) := by decide +kernel
theorem dX8_digest_19 : decode cX8_digest 19 = .ok (.iload_n 1, 1) := by decide +kernel
theorem dX8_digest_20 : decode cX8_digest 20 = .ok (.iaload, 1) := by decide +kernel
theorem dX8_digest_21 : decode cX8_digest 21 = .ok (.invokevirtual 176, 3) := by decide +kernel
theorem dX8_digest_24 : decode cX8_digest 24 = .ok (.iinc 1 1, 3) := by decide +kernel
theorem dX8_digest_27 : decode cX8_digest 27 = .ok (.goto (-18), 3) := by decide +kernel
theorem dX8_digest_30 : decode cX8_digest 30 = .ok (.aload_n 0, 1) := by decide +kernel
theorem dX8_digest_31 : decode cX8_digest 31 = .ok (.aload_n 0, 1) := by decide +kernel
theorem dX8_digest_32 : decode cX8_digest 32 = .ok (.getfield 60, 3) := by decide +kernel
theorem dX8_digest_35 : decode cX8_digest 35 = .ok (.invokevirtual 176, 3) := by decide +kernel
theorem dX8_digest_38 : decode cX8_digest 38 = .ok (.iconst 1, 1) := by decide +kernel
theorem dX8_digest_39 : decode cX8_digest 39 = .ok (.istore_n 1, 1) := by decide +kernel
theorem dX8_digest_40 : decode cX8_digest 40 = .ok (.iload_n 1, 1) := by decide +kernel
theorem dX8_digest_41 : decode cX8_digest 41 = .ok (.iconst 4, 1) := by decide +kernel
theorem dX8_digest_42 : decode cX8_digest 42 = .ok (.if_icmp .gt 19, 3) := by decide +kernel
theorem dX8_digest_45 : decode cX8_digest 45 = .ok (.aload_n 0, 1) := by decide +kernel
theorem dX8_digest_46 : decode cX8_digest 46 = .ok (.aload_n 0, 1) := by decide +kernel
theorem dX8_digest_47 : decode cX8_digest 47 = .ok (.getfield 7, 3) := by decide +kernel
theorem dX8_digest_50 : decode cX8_digest 50 = .ok (.iload_n 1, 1) := by decide +kernel
theorem dX8_digest_51 : decode cX8_digest 51 = .ok (.iaload, 1) := by decide +kernel
theorem dX8_digest_52 : decode cX8_digest 52 = .ok (.invokevirtual 176, 3) := by decide +kernel
theorem dX8_digest_55 : decode cX8_digest 55 = .ok (.iinc 1 1, 3) := by decide +kernel
theorem dX8_digest_58 : decode cX8_digest 58 = .ok (.goto (-18), 3) := by decide +kernel
theorem dX8_digest_61 : decode cX8_digest 61 = .ok (.aload_n 0, 1) := by decide +kernel
theorem dX8_digest_62 : decode cX8_digest 62 = .ok (.aload_n 0, 1) := by decide +kernel
theorem dX8_digest_63 : decode cX8_digest 63 = .ok (.getfield 7, 3) := by decide +kernel
theorem dX8_digest_66 : decode cX8_digest 66 = .ok (.iconst 0, 1) := by decide +kernel
theorem dX8_digest_67 : decode cX8_digest 67 = .ok (.iaload, 1) := by decide +kernel
theorem dX8_digest_68 : decode cX8_digest 68 = .ok (.invokevirtual 176, 3) := by decide +kernel
theorem dX8_digest_71 : decode cX8_digest 71 = .ok (.aload_n 0, 1) := by decide +kernel
theorem dX8_digest_72 : decode cX8_digest 72 = .ok (.invokevirtual 149, 3) := by decide +kernel
theorem dX8_digest_75 : decode cX8_digest 75 = .ok (.iconst 0, 1) := by decide +kernel
theorem dX8_digest_76 : decode cX8_digest 76 = .ok (.istore_n 1, 1) := by decide +kernel
theorem dX8_digest_77 : decode cX8_digest 77 = .ok (.iload_n 1, 1) := by decide +kernel
theorem dX8_digest_78 : decode cX8_digest 78 = .ok (.aload_n 0, 1) := by decide +kernel
theorem dX8_digest_79 : decode cX8_digest 79 = .ok (.getfield 7, 3) := by decide +kernel
theorem dX8_digest_82 : decode cX8_digest 82 = .ok (.iconst 0, 1) := by decide +kernel
theorem dX8_digest_83 : decode cX8_digest 83 = .ok (.iaload, 1) := by decide +kernel
theorem dX8_digest_84 : decode cX8_digest 84 = .ok (.if_icmp .ge 102, 3) := by decide +kernel
theorem dX8_digest_87 : decode cX8_digest 87 = .ok (.aload_n 0, 1) := by decide +kernel
theorem dX8_digest_88 : decode cX8_digest 88 = .ok (.aload_n 0, 1) := by decide +kernel
theorem dX8_digest_89 : decode cX8_digest 89 = .ok (.getfield 7, 3) := by decide +kernel
theorem dX8_digest_92 : decode cX8_digest 92 = .ok (.iconst 5, 1) := by decide +kernel
theorem dX8_digest_93 : decode cX8_digest 93 = .ok (.iload_n 1, 1) := by decide +kernel
theorem dX8_digest_94 : decode cX8_digest 94 = .ok (.iadd, 1) := by decide +kernel
theorem dX8_digest_95 : decode cX8_digest 95 = .ok (.iaload, 1) := by decide +kernel
theorem dX8_digest_96 : decode cX8_digest 96 = .ok (.invokevirtual 176, 3) := by decide +kernel
theorem dX8_digest_99 : decode cX8_digest 99 = .ok (.aload_n 0, 1) := by decide +kernel
theorem dX8_digest_100 : decode cX8_digest 100 = .ok (.aload_n 0, 1) := by decide +kernel
theorem dX8_digest_101 : decode cX8_digest 101 = .ok (.getfield 41, 3) := by decide +kernel
theorem dX8_digest_104 : decode cX8_digest 104 = .ok (.iload_n 1, 1) := by decide +kernel
theorem dX8_digest_105 : decode cX8_digest 105 = .ok (.iaload, 1) := by decide +kernel
theorem dX8_digest_106 : decode cX8_digest 106 = .ok (.invokevirtual 176, 3) := by decide +kernel
theorem dX8_digest_109 : decode cX8_digest 109 = .ok (.aload_n 0, 1) := by decide +kernel
theorem dX8_digest_110 : decode cX8_digest 110 = .ok (.aload_n 0, 1) := by decide +kernel
theorem dX8_digest_111 : decode cX8_digest 111 = .ok (.getfield 7, 3) := by decide +kernel
theorem dX8_digest_114 : decode cX8_digest 114 = .ok (.bipush 29, 2) := by decide +kernel
theorem dX8_digest_116 : decode cX8_digest 116 = .ok (.iload_n 1, 1) := by decide +kernel
theorem dX8_digest_117 : decode cX8_digest 117 = .ok (.iadd, 1) := by decide +kernel
theorem dX8_digest_118 : decode cX8_digest 118 = .ok (.iaload, 1) := by decide +kernel
theorem dX8_digest_119 : decode cX8_digest 119 = .ok (.invokevirtual 176, 3) := by decide +kernel
theorem dX8_digest_122 : decode cX8_digest 122 = .ok (.aload_n 0, 1) := by decide +kernel
theorem dX8_digest_123 : decode cX8_digest 123 = .ok (.aload_n 0, 1) := by decide +kernel
theorem dX8_digest_124 : decode cX8_digest 124 = .ok (.getfield 25, 3) := by decide +kernel
theorem dX8_digest_127 : decode cX8_digest 127 = .ok (.iload_n 1, 1) := by decide +kernel
theorem dX8_digest_128 : decode cX8_digest 128 = .ok (.iaload, 1) := by decide +kernel
theorem dX8_digest_129 : decode cX8_digest 129 = .ok (.invokevirtual 176, 3) := by decide +kernel
theorem dX8_digest_132 : decode cX8_digest 132 = .ok (.aload_n 0, 1) := by decide +kernel
theorem dX8_digest_133 : decode cX8_digest 133 = .ok (.aload_n 0, 1) := by decide +kernel
theorem dX8_digest_134 : decode cX8_digest 134 = .ok (.getfield 28, 3) := by decide +kernel
theorem dX8_digest_137 : decode cX8_digest 137 = .ok (.iload_n 1, 1) := by decide +kernel
theorem dX8_digest_138 : decode cX8_digest 138 = .ok (.iaload, 1) := by decide +kernel
theorem dX8_digest_139 : decode cX8_digest 139 = .ok (.invokevirtual 176, 3) := by decide +kernel
theorem dX8_digest_142 : decode cX8_digest 142 = .ok (.aload_n 0, 1) := by decide +kernel
theorem dX8_digest_143 : decode cX8_digest 143 = .ok (.aload_n 0, 1) := by decide +kernel
theorem dX8_digest_144 : decode cX8_digest 144 = .ok (.getfield 31, 3) := by decide +kernel
theorem dX8_digest_147 : decode cX8_digest 147 = .ok (.iload_n 1, 1) := by decide +kernel
theorem dX8_digest_148 : decode cX8_digest 148 = .ok (.iaload, 1) := by decide +kernel
theorem dX8_digest_149 : decode cX8_digest 149 = .ok (.invokevirtual 176, 3) := by decide +kernel
theorem dX8_digest_152 : decode cX8_digest 152 = .ok (.aload_n 0, 1) := by decide +kernel
theorem dX8_digest_153 : decode cX8_digest 153 = .ok (.aload_n 0, 1) := by decide +kernel
theorem dX8_digest_154 : decode cX8_digest 154 = .ok (.getfield 34, 3) := by decide +kernel
theorem dX8_digest_157 : decode cX8_digest 157 = .ok (.iload_n 1, 1) := by decide +kernel
theorem dX8_digest_158 : decode cX8_digest 158 = .ok (.iaload, 1) := by decide +kernel
theorem dX8_digest_159 : decode cX8_digest 159 = .ok (.invokevirtual 176, 3) := by decide +kernel
theorem dX8_digest_162 : decode cX8_digest 162 = .ok (.aload_n 0, 1) := by decide +kernel
theorem dX8_digest_163 : decode cX8_digest 163 = .ok (.aload_n 0, 1) := by decide +kernel
theorem dX8_digest_164 : decode cX8_digest 164 = .ok (.getfield 37, 3) := by decide +kernel
theorem dX8_digest_167 : decode cX8_digest 167 = .ok (.iload_n 1, 1) := by decide +kernel
theorem dX8_digest_168 : decode cX8_digest 168 = .ok (.baload, 1) := by decide +kernel
theorem dX8_digest_169 : decode cX8_digest 169 = .ok (.ifCond .eq 7, 3) := by decide +kernel
theorem dX8_digest_172 : decode cX8_digest 172 = .ok (.iconst 1, 1) := by decide +kernel
theorem dX8_digest_173 : decode cX8_digest 173 = .ok (.goto 4, 3) := by decide +kernel
theorem dX8_digest_176 : decode cX8_digest 176 = .ok (.iconst 0, 1) := by decide +kernel
theorem dX8_digest_177 : decode cX8_digest 177 = .ok (.invokevirtual 176, 3) := by decide +kernel
theorem dX8_digest_180 : decode cX8_digest 180 = .ok (.iinc 1 1, 3) := by decide +kernel
theorem dX8_digest_183 : decode cX8_digest 183 = .ok (.goto (-106), 3) := by decide +kernel
theorem dX8_digest_186 : decode cX8_digest 186 = .ok (.aload_n 0, 1) := by decide +kernel
theorem dX8_digest_187 : decode cX8_digest 187 = .ok (.aload_n 0, 1) := by decide +kernel
theorem dX8_digest_188 : decode cX8_digest 188 = .ok (.invokevirtual 152, 3) := by decide +kernel
theorem dX8_digest_191 : decode cX8_digest 191 = .ok (.invokevirtual 176, 3) := by decide +kernel
theorem dX8_digest_194 : decode cX8_digest 194 = .ok (.aload_n 0, 1) := by decide +kernel
theorem dX8_digest_195 : decode cX8_digest 195 = .ok (.aload_n 0, 1) := by decide +kernel
theorem dX8_digest_196 : decode cX8_digest 196 = .ok (.iconst 1, 1) := by decide +kernel
theorem dX8_digest_197 : decode cX8_digest 197 = .ok (.invokevirtual 161, 3) := by decide +kernel
theorem dX8_digest_200 : decode cX8_digest 200 = .ok (.invokevirtual 176, 3) := by decide +kernel
theorem dX8_digest_203 : decode cX8_digest 203 = .ok (.aload_n 0, 1) := by decide +kernel
theorem dX8_digest_204 : decode cX8_digest 204 = .ok (.aload_n 0, 1) := by decide +kernel
theorem dX8_digest_205 : decode cX8_digest 205 = .ok (.iconst 0, 1) := by decide +kernel
theorem dX8_digest_206 : decode cX8_digest 206 = .ok (.invokevirtual 161, 3) := by decide +kernel
theorem dX8_digest_209 : decode cX8_digest 209 = .ok (.invokevirtual 176, 3) := by decide +kernel
theorem dX8_digest_212 : decode cX8_digest 212 = .ok (.aload_n 0, 1) := by decide +kernel
theorem dX8_digest_213 : decode cX8_digest 213 = .ok (.getfield 170, 3) := by decide +kernel
theorem dX8_digest_216 : decode cX8_digest 216 = .ok (.lreturn, 1) := by decide +kernel
theorem dJxf58ca_isNaN_12338_0 : decode cJxf58ca_isNaN_12338 0 = .ok (.fload_n 0, 1) := by decide +kernel
theorem dJxf58ca_isNaN_12338_1 : decode cJxf58ca_isNaN_12338 1 = .ok (.fload_n 0, 1) := by decide +kernel
theorem dJxf58ca_isNaN_12338_2 : decode cJxf58ca_isNaN_12338 2 = .ok (.fcmp .l, 1) := by decide +kernel
theorem dJxf58ca_isNaN_12338_3 : decode cJxf58ca_isNaN_12338 3 = .ok (.ifCond .eq 7, 3) := by decide +kernel
theorem dJxf58ca_isNaN_12338_6 : decode cJxf58ca_isNaN_12338 6 = .ok (.iconst 1, 1) := by decide +kernel
theorem dJxf58ca_isNaN_12338_7 : decode cJxf58ca_isNaN_12338 7 = .ok (.goto 4, 3) := by decide +kernel
theorem dJxf58ca_isNaN_12338_10 : decode cJxf58ca_isNaN_12338 10 = .ok (.iconst 0, 1) := by decide +kernel
theorem dJxf58ca_isNaN_12338_11 : decode cJxf58ca_isNaN_12338 11 = .ok (.ireturn, 1) := by decide +kernel
set_option maxRecDepth 20000 in
theorem ggJxf58ca_floatToIntBits_5c35a_Jxf58ca_isNaN_12338 : GoodIn wsJxf58ca_floatToIntBits_5c35a wsJxf58ca_isNaN_12338 := goodIn_r _ [9] (by decide +kernel) (by decide +kernel)
set_option maxRecDepth 20000 in
theorem gJxf58ca_floatToIntBits_5c35a_Jxf58ca_isNaN_12338 : GoodIn wsJxf58ca_floatToIntBits_5c35a (va_wsS RJxf58ca 59 yJxf58ca_isNaN_12338 wsJxf58ca_isNaN_12338) := goodIn_app (goodIn_of _ (by decide +kernel)) ggJxf58ca_floatToIntBits_5c35a_Jxf58ca_isNaN_12338
theorem dJxf58ca_floatToIntBits_5c35a_0 : decode cJxf58ca_floatToIntBits_5c35a 0 = .ok (.fload_n 0, 1) := by decide +kernel
theorem dJxf58ca_floatToIntBits_5c35a_1 : decode cJxf58ca_floatToIntBits_5c35a 1 = .ok (.invokestatic 59, 3) := by decide +kernel
theorem dJxf58ca_floatToIntBits_5c35a_4 : decode cJxf58ca_floatToIntBits_5c35a 4 = .ok (.ifCond .ne 8, 3) := by decide +kernel
theorem dJxf58ca_floatToIntBits_5c35a_7 : decode cJxf58ca_floatToIntBits_5c35a 7 = .ok (.fload_n 0, 1) := by decide +kernel
theorem dJxf58ca_floatToIntBits_5c35a_8 : decode cJxf58ca_floatToIntBits_5c35a 8 = .ok (.invokestatic 74, 3) := by decide +kernel
theorem dJxf58ca_floatToIntBits_5c35a_11 : decode cJxf58ca_floatToIntBits_5c35a 11 = .ok (.ireturn, 1) := by decide +kernel
theorem dJxf58ca_floatToIntBits_5c35a_12 : decode cJxf58ca_floatToIntBits_5c35a 12 = .ok (.ldc 77, 2) := by decide +kernel
theorem dJxf58ca_floatToIntBits_5c35a_14 : decode cJxf58ca_floatToIntBits_5c35a 14 = .ok (.ireturn, 1) := by decide +kernel
theorem dJ9_abs_0f7a4_0 : decode cJ9_abs_0f7a4 0 = .ok (.iload_n 0, 1) := by decide +kernel
theorem dJ9_abs_0f7a4_1 : decode cJ9_abs_0f7a4 1 = .ok (.ifCond .ge 8, 3) := by decide +kernel
theorem dJ9_abs_0f7a4_4 : decode cJ9_abs_0f7a4 4 = .ok (.iload_n 0, 1) := by decide +kernel
theorem dJ9_abs_0f7a4_5 : decode cJ9_abs_0f7a4 5 = .ok (.ineg, 1) := by decide +kernel
theorem dJ9_abs_0f7a4_6 : decode cJ9_abs_0f7a4 6 = .ok (.goto 4, 3) := by decide +kernel
theorem dJ9_abs_0f7a4_9 : decode cJ9_abs_0f7a4 9 = .ok (.iload_n 0, 1) := by decide +kernel
theorem dJ9_abs_0f7a4_10 : decode cJ9_abs_0f7a4 10 = .ok (.ireturn, 1) := by decide +kernel
theorem dJ9_max_7cf53_0 : decode cJ9_max_7cf53 0 = .ok (.iload_n 0, 1) := by decide +kernel
theorem dJ9_max_7cf53_1 : decode cJ9_max_7cf53 1 = .ok (.iload_n 1, 1) := by decide +kernel
theorem dJ9_max_7cf53_2 : decode cJ9_max_7cf53 2 = .ok (.if_icmp .lt 7, 3) := by decide +kernel
theorem dJ9_max_7cf53_5 : decode cJ9_max_7cf53 5 = .ok (.iload_n 0, 1) := by decide +kernel
theorem dJ9_max_7cf53_6 : decode cJ9_max_7cf53 6 = .ok (.goto 4, 3) := by decide +kernel
theorem dJ9_max_7cf53_9 : decode cJ9_max_7cf53 9 = .ok (.iload_n 1, 1) := by decide +kernel
theorem dJ9_max_7cf53_10 : decode cJ9_max_7cf53 10 = .ok (.ireturn, 1) := by decide +kernel
theorem dJ9_min_7cf53_0 : decode cJ9_min_7cf53 0 = .ok (.iload_n 0, 1) := by decide +kernel
theorem dJ9_min_7cf53_1 : decode cJ9_min_7cf53 1 = .ok (.iload_n 1, 1) := by decide +kernel
theorem dJ9_min_7cf53_2 : decode cJ9_min_7cf53 2 = .ok (.if_icmp .gt 7, 3) := by decide +kernel
theorem dJ9_min_7cf53_5 : decode cJ9_min_7cf53 5 = .ok (.iload_n 0, 1) := by decide +kernel
theorem dJ9_min_7cf53_6 : decode cJ9_min_7cf53 6 = .ok (.goto 4, 3) := by decide +kernel
theorem dJ9_min_7cf53_9 : decode cJ9_min_7cf53 9 = .ok (.iload_n 1, 1) := by decide +kernel
theorem dJ9_min_7cf53_10 : decode cJ9_min_7cf53 10 = .ok (.ireturn, 1) := by decide +kernel
abbrev vwCl : List vw_C := [(RX0, TX0, 4), (RX1, TX1, 8), (RX2, TX2, 8), (RX3, TX3, 4), (RX4, TX4, 4), (RX5, TX5, 7), (RX6, TX6, 3), (RX7, TX7, 8), (RX8, TX8, 18)]
end
