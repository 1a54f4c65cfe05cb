
set_option maxRecDepth 20000 in
theorem kX8_fails_f16 : Cond.fieldLink RX8 16 "TreemapLayoutModel" "errors" "[I" ∈ wsX8_fails := by decide +kernel
set_option maxRecDepth 20000 in
theorem uX8_fails_X8 : ∀ w ∈ u_ws RX8 TX8 18, w ∈ wsX8_fails := by decide +kernel
set_option maxRecDepth 20000 in
theorem kX8_isNode_f7 : Cond.fieldLink RX8 7 "TreemapLayoutModel" "now" "[I" ∈ wsX8_isNode := by decide +kernel
set_option maxRecDepth 20000 in
theorem uX8_isNode_X8 : ∀ w ∈ u_ws RX8 TX8 18, w ∈ wsX8_isNode := by decide +kernel
set_option maxRecDepth 20000 in
theorem kX8_saves_f13 : Cond.fieldLink RX8 13 "TreemapLayoutModel" "past" "[I" ∈ wsX8_saves := by decide +kernel
set_option maxRecDepth 20000 in
theorem kX8_saves_f60 : Cond.fieldLink RX8 60 "TreemapLayoutModel" "saved" "I" ∈ wsX8_saves := by decide +kernel
set_option maxRecDepth 20000 in
theorem kX8_saves_f7 : Cond.fieldLink RX8 7 "TreemapLayoutModel" "now" "[I" ∈ wsX8_saves := by decide +kernel
set_option maxRecDepth 20000 in
theorem uX8_saves_X8 : ∀ w ∈ u_ws RX8 TX8 18, w ∈ wsX8_saves := by decide +kernel
set_option maxRecDepth 20000 in
theorem kX8_undo_f13 : Cond.fieldLink RX8 13 "TreemapLayoutModel" "past" "[I" ∈ wsX8_undo := by decide +kernel
set_option maxRecDepth 20000 in
theorem kX8_undo_f60 : Cond.fieldLink RX8 60 "TreemapLayoutModel" "saved" "I" ∈ wsX8_undo := by decide +kernel
set_option maxRecDepth 20000 in
theorem kX8_undo_f7 : Cond.fieldLink RX8 7 "TreemapLayoutModel" "now" "[I" ∈ wsX8_undo := by decide +kernel
set_option maxRecDepth 20000 in
theorem uX8_undo_X8 : ∀ w ∈ u_ws RX8 TX8 18, w ∈ wsX8_undo := by decide +kernel
set_option maxRecDepth 20000 in
theorem kX8_childMany_f7 : Cond.fieldLink RX8 7 "TreemapLayoutModel" "now" "[I" ∈ wsX8_childMany := by decide +kernel
set_option maxRecDepth 20000 in
theorem uX8_childMany_X8 : ∀ w ∈ u_ws RX8 TX8 18, w ∈ wsX8_childMany := by decide +kernel
set_option maxRecDepth 20000 in
theorem kX8_isUnder_f7 : Cond.fieldLink RX8 7 "TreemapLayoutModel" "now" "[I" ∈ wsX8_isUnder := by decide +kernel
set_option maxRecDepth 20000 in
theorem uX8_isUnder_X8 : ∀ w ∈ u_ws RX8 TX8 18, w ∈ wsX8_isUnder := by decide +kernel
set_option maxRecDepth 20000 in
theorem kX8_sizeOf_f7 : Cond.fieldLink RX8 7 "TreemapLayoutModel" "now" "[I" ∈ wsX8_sizeOf := by decide +kernel
set_option maxRecDepth 20000 in
theorem uX8_sizeOf_X8 : ∀ w ∈ u_ws RX8 TX8 18, w ∈ wsX8_sizeOf := by decide +kernel
set_option maxRecDepth 20000 in
theorem kX8_depthOf_f7 : Cond.fieldLink RX8 7 "TreemapLayoutModel" "now" "[I" ∈ wsX8_depthOf := by decide +kernel
set_option maxRecDepth 20000 in
theorem uX8_depthOf_X8 : ∀ w ∈ u_ws RX8 TX8 18, w ∈ wsX8_depthOf := by decide +kernel
set_option maxRecDepth 20000 in
theorem kX8_addNode_f7 : Cond.fieldLink RX8 7 "TreemapLayoutModel" "now" "[I" ∈ wsX8_addNode := by decide +kernel
set_option maxRecDepth 20000 in
theorem uX8_addNode_X8 : ∀ w ∈ u_ws RX8 TX8 18, w ∈ wsX8_addNode := by decide +kernel
set_option maxRecDepth 20000 in
theorem kX8_changes_f7 : Cond.fieldLink RX8 7 "TreemapLayoutModel" "now" "[I" ∈ wsX8_changes := by decide +kernel
set_option maxRecDepth 20000 in
theorem uX8_changes_X8 : ∀ w ∈ u_ws RX8 TX8 18, w ∈ wsX8_changes := by decide +kernel

set_option maxRecDepth 20000 in
theorem kX8_removeLeaf_f7 : Cond.fieldLink RX8 7 "TreemapLayoutModel" "now" "[I" ∈ wsX8_removeLeaf := by decide +kernel
set_option maxRecDepth 20000 in
theorem uX8_removeLeaf_X8 : ∀ w ∈ u_ws RX8 TX8 18, w ∈ wsX8_removeLeaf := by decide +kernel

set_option maxRecDepth 20000 in
theorem kX8_setCanvas_f7 : Cond.fieldLink RX8 7 "TreemapLayoutModel" "now" "[I" ∈ wsX8_setCanvas := by decide +kernel
set_option maxRecDepth 20000 in
theorem uX8_setCanvas_X8 : ∀ w ∈ u_ws RX8 TX8 18, w ∈ wsX8_setCanvas := by decide +kernel


set_option maxRecDepth 20000 in
theorem kX8_nodeCount_f7 : Cond.fieldLink RX8 7 "TreemapLayoutModel" "now" "[I" ∈ wsX8_nodeCount := by decide +kernel
set_option maxRecDepth 20000 in
theorem uX8_nodeCount_X8 : ∀ w ∈ u_ws RX8 TX8 18, w ∈ wsX8_nodeCount := by decide +kernel

set_option maxRecDepth 20000 in
theorem kX8_parent_f7 : Cond.fieldLink RX8 7 "TreemapLayoutModel" "now" "[I" ∈ wsX8_parent := by decide +kernel
set_option maxRecDepth 20000 in
theorem uX8_parent_X8 : ∀ w ∈ u_ws RX8 TX8 18, w ∈ wsX8_parent := by decide +kernel

set_option maxRecDepth 20000 in
theorem kX8_leaves_f7 : Cond.fieldLink RX8 7 "TreemapLayoutModel" "now" "[I" ∈ wsX8_leaves := by decide +kernel
set_option maxRecDepth 20000 in
theorem uX8_leaves_X8 : ∀ w ∈ u_ws RX8 TX8 18, w ∈ wsX8_leaves := by decide +kernel

set_option maxRecDepth 20000 in
theorem kX8_parts_f19 : Cond.fieldLink RX8 19 "TreemapLayoutModel" "sizes" "[I" ∈ wsX8_parts := by decide +kernel
set_option maxRecDepth 20000 in
theorem kX8_parts_f22 : Cond.fieldLink RX8 22 "TreemapLayoutModel" "lengths" "[I" ∈ wsX8_parts := by decide +kernel
set_option maxRecDepth 20000 in
theorem uX8_parts_X8 : ∀ w ∈ u_ws RX8 TX8 18, w ∈ wsX8_parts := by decide +kernel
set_option maxRecDepth 20000 in
theorem kX8_puts_f25 : Cond.fieldLink RX8 25 "TreemapLayoutModel" "xs" "[I" ∈ wsX8_puts := by decide +kernel
set_option maxRecDepth 20000 in
theorem kX8_puts_f28 : Cond.fieldLink RX8 28 "TreemapLayoutModel" "ys" "[I" ∈ wsX8_puts := by decide +kernel
set_option maxRecDepth 20000 in
theorem kX8_puts_f31 : Cond.fieldLink RX8 31 "TreemapLayoutModel" "wides" "[I" ∈ wsX8_puts := by decide +kernel
set_option maxRecDepth 20000 in
theorem kX8_puts_f34 : Cond.fieldLink RX8 34 "TreemapLayoutModel" "highs" "[I" ∈ wsX8_puts := by decide +kernel
set_option maxRecDepth 20000 in
theorem uX8_puts_X8 : ∀ w ∈ u_ws RX8 TX8 18, w ∈ wsX8_puts := by decide +kernel
set_option maxRecDepth 20000 in
theorem kX8_laysChildren_f44 : Cond.fieldLink RX8 44 "TreemapLayoutModel" "children" "[I" ∈ wsX8_laysChildren := by decide +kernel
set_option maxRecDepth 20000 in
theorem kX8_laysChildren_f7 : Cond.fieldLink RX8 7 "TreemapLayoutModel" "now" "[I" ∈ wsX8_laysChildren := by decide +kernel
set_option maxRecDepth 20000 in
theorem kX8_laysChildren_f96 : Cond.fieldLink RX8 96 "TreemapLayoutModel" "many" "I" ∈ wsX8_laysChildren := by decide +kernel
set_option maxRecDepth 20000 in
theorem uX8_laysChildren_X8 : ∀ w ∈ u_ws RX8 TX8 18, w ∈ wsX8_laysChildren := by decide +kernel
set_option maxRecDepth 20000 in
theorem kX8_laysSizes_f19 : Cond.fieldLink RX8 19 "TreemapLayoutModel" "sizes" "[I" ∈ wsX8_laysSizes := by decide +kernel
set_option maxRecDepth 20000 in
theorem kX8_laysSizes_f41 : Cond.fieldLink RX8 41 "TreemapLayoutModel" "allSizes" "[I" ∈ wsX8_laysSizes := by decide +kernel
set_option maxRecDepth 20000 in
theorem kX8_laysSizes_f44 : Cond.fieldLink RX8 44 "TreemapLayoutModel" "children" "[I" ∈ wsX8_laysSizes := by decide +kernel
set_option maxRecDepth 20000 in
theorem uX8_laysSizes_X8 : ∀ w ∈ u_ws RX8 TX8 18, w ∈ wsX8_laysSizes := by decide +kernel
set_option maxRecDepth 20000 in
theorem kX8_sumOf_f41 : Cond.fieldLink RX8 41 "TreemapLayoutModel" "allSizes" "[I" ∈ wsX8_sumOf := by decide +kernel
set_option maxRecDepth 20000 in
theorem kX8_sumOf_f44 : Cond.fieldLink RX8 44 "TreemapLayoutModel" "children" "[I" ∈ wsX8_sumOf := by decide +kernel
set_option maxRecDepth 20000 in
theorem uX8_sumOf_X8 : ∀ w ∈ u_ws RX8 TX8 18, w ∈ wsX8_sumOf := by decide +kernel
set_option maxRecDepth 20000 in
theorem kX8_laysRow_f22 : Cond.fieldLink RX8 22 "TreemapLayoutModel" "lengths" "[I" ∈ wsX8_laysRow := by decide +kernel
set_option maxRecDepth 20000 in
theorem kX8_laysRow_f44 : Cond.fieldLink RX8 44 "TreemapLayoutModel" "children" "[I" ∈ wsX8_laysRow := by decide +kernel
set_option maxRecDepth 20000 in
theorem uX8_laysRow_X8 : ∀ w ∈ u_ws RX8 TX8 18, w ∈ wsX8_laysRow := by decide +kernel
set_option maxRecDepth 20000 in
theorem kX8_aspect_f41 : Cond.fieldLink RX8 41 "TreemapLayoutModel" "allSizes" "[I" ∈ wsX8_aspect := by decide +kernel
set_option maxRecDepth 20000 in
theorem uX8_aspect_X8 : ∀ w ∈ u_ws RX8 TX8 18, w ∈ wsX8_aspect := by decide +kernel
set_option maxRecDepth 20000 in
theorem kX8_average_f44 : Cond.fieldLink RX8 44 "TreemapLayoutModel" "children" "[I" ∈ wsX8_average := by decide +kernel
set_option maxRecDepth 20000 in
theorem uX8_average_X8 : ∀ w ∈ u_ws RX8 TX8 18, w ∈ wsX8_average := by decide +kernel
set_option maxRecDepth 20000 in
theorem kX8_worst_f44 : Cond.fieldLink RX8 44 "TreemapLayoutModel" "children" "[I" ∈ wsX8_worst := by decide +kernel
set_option maxRecDepth 20000 in
theorem uX8_worst_X8 : ∀ w ∈ u_ws RX8 TX8 18, w ∈ wsX8_worst := by decide +kernel
set_option maxRecDepth 20000 in
theorem kX8_laysStrips_f19 : Cond.fieldLink RX8 19 "TreemapLayoutModel" "sizes" "[I" ∈ wsX8_laysStrips := by decide +kernel
set_option maxRecDepth 20000 in
theorem kX8_laysStrips_f22 : Cond.fieldLink RX8 22 "TreemapLayoutModel" "lengths" "[I" ∈ wsX8_laysStrips := by decide +kernel
set_option maxRecDepth 20000 in
theorem kX8_laysStrips_f47 : Cond.fieldLink RX8 47 "TreemapLayoutModel" "strips" "[I" ∈ wsX8_laysStrips := by decide +kernel
set_option maxRecDepth 20000 in
theorem kX8_laysStrips_f50 : Cond.fieldLink RX8 50 "TreemapLayoutModel" "heights" "[I" ∈ wsX8_laysStrips := by decide +kernel
set_option maxRecDepth 20000 in
theorem kX8_laysStrips_f96 : Cond.fieldLink RX8 96 "TreemapLayoutModel" "many" "I" ∈ wsX8_laysStrips := by decide +kernel
set_option maxRecDepth 20000 in
theorem uX8_laysStrips_X8 : ∀ w ∈ u_ws RX8 TX8 18, w ∈ wsX8_laysStrips := by decide +kernel
set_option maxRecDepth 20000 in
theorem kX8_sorts_f41 : Cond.fieldLink RX8 41 "TreemapLayoutModel" "allSizes" "[I" ∈ wsX8_sorts := by decide +kernel
set_option maxRecDepth 20000 in
theorem kX8_sorts_f44 : Cond.fieldLink RX8 44 "TreemapLayoutModel" "children" "[I" ∈ wsX8_sorts := by decide +kernel
set_option maxRecDepth 20000 in
theorem kX8_sorts_f96 : Cond.fieldLink RX8 96 "TreemapLayoutModel" "many" "I" ∈ wsX8_sorts := by decide +kernel
set_option maxRecDepth 20000 in
theorem uX8_sorts_X8 : ∀ w ∈ u_ws RX8 TX8 18, w ∈ wsX8_sorts := by decide +kernel
set_option maxRecDepth 20000 in
theorem kX8_rowOf_f96 : Cond.fieldLink RX8 96 "TreemapLayoutModel" "many" "I" ∈ wsX8_rowOf := by decide +kernel
set_option maxRecDepth 20000 in
theorem uX8_rowOf_X8 : ∀ w ∈ u_ws RX8 TX8 18, w ∈ wsX8_rowOf := by decide +kernel
set_option maxRecDepth 20000 in
theorem kX8_laysSquares_f44 : Cond.fieldLink RX8 44 "TreemapLayoutModel" "children" "[I" ∈ wsX8_laysSquares := by decide +kernel
set_option maxRecDepth 20000 in
theorem kX8_laysSquares_f96 : Cond.fieldLink RX8 96 "TreemapLayoutModel" "many" "I" ∈ wsX8_laysSquares := by decide +kernel
set_option maxRecDepth 20000 in
theorem uX8_laysSquares_X8 : ∀ w ∈ u_ws RX8 TX8 18, w ∈ wsX8_laysSquares := by decide +kernel
set_option maxRecDepth 20000 in
theorem kX8_laysUnder_f25 : Cond.fieldLink RX8 25 "TreemapLayoutModel" "xs" "[I" ∈ wsX8_laysUnder := by decide +kernel
set_option maxRecDepth 20000 in
theorem kX8_laysUnder_f28 : Cond.fieldLink RX8 28 "TreemapLayoutModel" "ys" "[I" ∈ wsX8_laysUnder := by decide +kernel
set_option maxRecDepth 20000 in
theorem kX8_laysUnder_f31 : Cond.fieldLink RX8 31 "TreemapLayoutModel" "wides" "[I" ∈ wsX8_laysUnder := by decide +kernel
set_option maxRecDepth 20000 in
theorem kX8_laysUnder_f34 : Cond.fieldLink RX8 34 "TreemapLayoutModel" "highs" "[I" ∈ wsX8_laysUnder := by decide +kernel
set_option maxRecDepth 20000 in
theorem kX8_laysUnder_f37 : Cond.fieldLink RX8 37 "TreemapLayoutModel" "hidden" "[Z" ∈ wsX8_laysUnder := by decide +kernel
set_option maxRecDepth 20000 in
theorem kX8_laysUnder_f41 : Cond.fieldLink RX8 41 "TreemapLayoutModel" "allSizes" "[I" ∈ wsX8_laysUnder := by decide +kernel
set_option maxRecDepth 20000 in
theorem kX8_laysUnder_f44 : Cond.fieldLink RX8 44 "TreemapLayoutModel" "children" "[I" ∈ wsX8_laysUnder := by decide +kernel
set_option maxRecDepth 20000 in
theorem kX8_laysUnder_f7 : Cond.fieldLink RX8 7 "TreemapLayoutModel" "now" "[I" ∈ wsX8_laysUnder := by decide +kernel
set_option maxRecDepth 20000 in
theorem kX8_laysUnder_f96 : Cond.fieldLink RX8 96 "TreemapLayoutModel" "many" "I" ∈ wsX8_laysUnder := by decide +kernel
set_option maxRecDepth 20000 in
theorem uX8_laysUnder_X8 : ∀ w ∈ u_ws RX8 TX8 18, w ∈ wsX8_laysUnder := by decide +kernel
set_option maxRecDepth 20000 in
theorem kX8_lays_f37 : Cond.fieldLink RX8 37 "TreemapLayoutModel" "hidden" "[Z" ∈ wsX8_lays := by decide +kernel
set_option maxRecDepth 20000 in
theorem kX8_lays_f41 : Cond.fieldLink RX8 41 "TreemapLayoutModel" "allSizes" "[I" ∈ wsX8_lays := by decide +kernel
set_option maxRecDepth 20000 in
theorem kX8_lays_f7 : Cond.fieldLink RX8 7 "TreemapLayoutModel" "now" "[I" ∈ wsX8_lays := by decide +kernel
set_option maxRecDepth 20000 in
theorem uX8_lays_X8 : ∀ w ∈ u_ws RX8 TX8 18, w ∈ wsX8_lays := by decide +kernel
set_option maxRecDepth 20000 in
theorem kX8_x_f25 : Cond.fieldLink RX8 25 "TreemapLayoutModel" "xs" "[I" ∈ wsX8_x := by decide +kernel
set_option maxRecDepth 20000 in
theorem uX8_x_X8 : ∀ w ∈ u_ws RX8 TX8 18, w ∈ wsX8_x := by decide +kernel
set_option maxRecDepth 20000 in
theorem kX8_y_f28 : Cond.fieldLink RX8 28 "TreemapLayoutModel" "ys" "[I" ∈ wsX8_y := by decide +kernel
set_option maxRecDepth 20000 in
theorem uX8_y_X8 : ∀ w ∈ u_ws RX8 TX8 18, w ∈ wsX8_y := by decide +kernel
set_option maxRecDepth 20000 in
theorem kX8_width_f31 : Cond.fieldLink RX8 31 "TreemapLayoutModel" "wides" "[I" ∈ wsX8_width := by decide +kernel
set_option maxRecDepth 20000 in
theorem uX8_width_X8 : ∀ w ∈ u_ws RX8 TX8 18, w ∈ wsX8_width := by decide +kernel
set_option maxRecDepth 20000 in
theorem kX8_height_f34 : Cond.fieldLink RX8 34 "TreemapLayoutModel" "highs" "[I" ∈ wsX8_height := by decide +kernel
set_option maxRecDepth 20000 in
theorem uX8_height_X8 : ∀ w ∈ u_ws RX8 TX8 18, w ∈ wsX8_height := by decide +kernel
set_option maxRecDepth 20000 in
theorem kX8_isHidden_f37 : Cond.fieldLink RX8 37 "TreemapLayoutModel" "hidden" "[Z" ∈ wsX8_isHidden := by decide +kernel
set_option maxRecDepth 20000 in
theorem uX8_isHidden_X8 : ∀ w ∈ u_ws RX8 TX8 18, w ∈ wsX8_isHidden := by decide +kernel
set_option maxRecDepth 20000 in
theorem kX8_nodeAt_f25 : Cond.fieldLink RX8 25 "TreemapLayoutModel" "xs" "[I" ∈ wsX8_nodeAt := by decide +kernel
set_option maxRecDepth 20000 in
theorem kX8_nodeAt_f28 : Cond.fieldLink RX8 28 "TreemapLayoutModel" "ys" "[I" ∈ wsX8_nodeAt := by decide +kernel
set_option maxRecDepth 20000 in
theorem kX8_nodeAt_f31 : Cond.fieldLink RX8 31 "TreemapLayoutModel" "wides" "[I" ∈ wsX8_nodeAt := by decide +kernel
set_option maxRecDepth 20000 in
theorem kX8_nodeAt_f34 : Cond.fieldLink RX8 34 "TreemapLayoutModel" "highs" "[I" ∈ wsX8_nodeAt := by decide +kernel
set_option maxRecDepth 20000 in
theorem kX8_nodeAt_f7 : Cond.fieldLink RX8 7 "TreemapLayoutModel" "now" "[I" ∈ wsX8_nodeAt := by decide +kernel
set_option maxRecDepth 20000 in
theorem uX8_nodeAt_X8 : ∀ w ∈ u_ws RX8 TX8 18, w ∈ wsX8_nodeAt := by decide +kernel
set_option maxRecDepth 20000 in
theorem kX8_pixels_f31 : Cond.fieldLink RX8 31 "TreemapLayoutModel" "wides" "[I" ∈ wsX8_pixels := by decide +kernel
set_option maxRecDepth 20000 in
theorem kX8_pixels_f34 : Cond.fieldLink RX8 34 "TreemapLayoutModel" "highs" "[I" ∈ wsX8_pixels := by decide +kernel
set_option maxRecDepth 20000 in
theorem kX8_pixels_f7 : Cond.fieldLink RX8 7 "TreemapLayoutModel" "now" "[I" ∈ wsX8_pixels := by decide +kernel
set_option maxRecDepth 20000 in
theorem uX8_pixels_X8 : ∀ w ∈ u_ws RX8 TX8 18, w ∈ wsX8_pixels := by decide +kernel

set_option maxRecDepth 20000 in
theorem kX8_aspects_f31 : Cond.fieldLink RX8 31 "TreemapLayoutModel" "wides" "[I" ∈ wsX8_aspects := by decide +kernel
set_option maxRecDepth 20000 in
theorem kX8_aspects_f34 : Cond.fieldLink RX8 34 "TreemapLayoutModel" "highs" "[I" ∈ wsX8_aspects := by decide +kernel
set_option maxRecDepth 20000 in
theorem kX8_aspects_f7 : Cond.fieldLink RX8 7 "TreemapLayoutModel" "now" "[I" ∈ wsX8_aspects := by decide +kernel
set_option maxRecDepth 20000 in
theorem uX8_aspects_X8 : ∀ w ∈ u_ws RX8 TX8 18, w ∈ wsX8_aspects := by decide +kernel



set_option maxRecDepth 20000 in
theorem kX8_changeBy_f25 : Cond.fieldLink RX8 25 "TreemapLayoutModel" "xs" "[I" ∈ wsX8_changeBy := by decide +kernel
set_option maxRecDepth 20000 in
theorem kX8_changeBy_f28 : Cond.fieldLink RX8 28 "TreemapLayoutModel" "ys" "[I" ∈ wsX8_changeBy := by decide +kernel
set_option maxRecDepth 20000 in
theorem kX8_changeBy_f31 : Cond.fieldLink RX8 31 "TreemapLayoutModel" "wides" "[I" ∈ wsX8_changeBy := by decide +kernel
set_option maxRecDepth 20000 in
theorem kX8_changeBy_f34 : Cond.fieldLink RX8 34 "TreemapLayoutModel" "highs" "[I" ∈ wsX8_changeBy := by decide +kernel
set_option maxRecDepth 20000 in
theorem kX8_changeBy_f53 : Cond.fieldLink RX8 53 "TreemapLayoutModel" "before" "[I" ∈ wsX8_changeBy := by decide +kernel
set_option maxRecDepth 20000 in
theorem kX8_changeBy_f7 : Cond.fieldLink RX8 7 "TreemapLayoutModel" "now" "[I" ∈ wsX8_changeBy := by decide +kernel
set_option maxRecDepth 20000 in
theorem uX8_changeBy_X8 : ∀ w ∈ u_ws RX8 TX8 18, w ∈ wsX8_changeBy := by decide +kernel
set_option maxRecDepth 20000 in
theorem kX8_errorCount_f16 : Cond.fieldLink RX8 16 "TreemapLayoutModel" "errors" "[I" ∈ wsX8_errorCount := by decide +kernel
set_option maxRecDepth 20000 in
theorem uX8_errorCount_X8 : ∀ w ∈ u_ws RX8 TX8 18, w ∈ wsX8_errorCount := by decide +kernel
set_option maxRecDepth 20000 in
theorem kX8_mix_c168 : Cond.constantLong RX8 168 31 ∈ wsX8_mix := by decide +kernel
set_option maxRecDepth 20000 in
theorem kX8_mix_f170 : Cond.fieldLink RX8 170 "TreemapLayoutModel" "hash" "J" ∈ wsX8_mix := by decide +kernel
set_option maxRecDepth 20000 in
theorem uX8_mix_X8 : ∀ w ∈ u_ws RX8 TX8 18, w ∈ wsX8_mix := by decide +kernel
set_option maxRecDepth 20000 in
theorem kX8_digest_c174 : Cond.constantLong RX8 174 11759 ∈ wsX8_digest := by decide +kernel
set_option maxRecDepth 20000 in
theorem kX8_digest_f16 : Cond.fieldLink RX8 16 "TreemapLayoutModel" "errors" "[I" ∈ wsX8_digest := by decide +kernel
set_option maxRecDepth 20000 in
theorem kX8_digest_f170 : Cond.fieldLink RX8 170 "TreemapLayoutModel" "hash" "J" ∈ wsX8_digest := by decide +kernel
set_option maxRecDepth 20000 in
theorem kX8_digest_f25 : Cond.fieldLink RX8 25 "TreemapLayoutModel" "xs" "[I" ∈ wsX8_digest := by decide +kernel
set_option maxRecDepth 20000 in
theorem kX8_digest_f28 : Cond.fieldLink RX8 28 "TreemapLayoutModel" "ys" "[I" ∈ wsX8_digest := by decide +kernel
set_option maxRecDepth 20000 in
theorem kX8_digest_f31 : Cond.fieldLink RX8 31 "TreemapLayoutModel" "wides" "[I" ∈ wsX8_digest := by decide +kernel
set_option maxRecDepth 20000 in
theorem kX8_digest_f34 : Cond.fieldLink RX8 34 "TreemapLayoutModel" "highs" "[I" ∈ wsX8_digest := by decide +kernel
set_option maxRecDepth 20000 in
theorem kX8_digest_f37 : Cond.fieldLink RX8 37 "TreemapLayoutModel" "hidden" "[Z" ∈ wsX8_digest := by decide +kernel
set_option maxRecDepth 20000 in
theorem kX8_digest_f41 : Cond.fieldLink RX8 41 "TreemapLayoutModel" "allSizes" "[I" ∈ wsX8_digest := by decide +kernel
set_option maxRecDepth 20000 in
theorem kX8_digest_f60 : Cond.fieldLink RX8 60 "TreemapLayoutModel" "saved" "I" ∈ wsX8_digest := by decide +kernel
set_option maxRecDepth 20000 in
theorem kX8_digest_f7 : Cond.fieldLink RX8 7 "TreemapLayoutModel" "now" "[I" ∈ wsX8_digest := by decide +kernel
set_option maxRecDepth 20000 in
theorem uX8_digest_X8 : ∀ w ∈ u_ws RX8 TX8 18, w ∈ wsX8_digest := by decide +kernel
