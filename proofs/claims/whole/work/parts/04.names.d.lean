set_option maxRecDepth 20000 in
theorem ggX4_init_X3_init : GoodIn wsX4_init wsX3_init := goodIn_r _ [23, 24, 2, 3, 25, 26, 27, 28, 57, 58, 59] rfl (by decide +kernel)
set_option maxRecDepth 20000 in
theorem gX4_init_X3_init_n11 : GoodIn wsX4_init (wsX3_init) := ggX4_init_X3_init
set_option maxRecDepth 20000 in
theorem ggX4_init_X2_init : GoodIn wsX4_init wsX2_init := goodIn_r _ [31, 32, 2, 3, 27, 33, 34, 35, 36, 37, 66, 67, 68, 69, 70, 71] rfl (by decide +kernel)
set_option maxRecDepth 20000 in
theorem gX4_init_X2_init : GoodIn wsX4_init (wsX2_init) := ggX4_init_X2_init
set_option maxRecDepth 20000 in
theorem ggX4_init_X0_init : GoodIn wsX4_init wsX0_init := goodIn_r _ [40, 41, 2, 3, 27, 42, 43, 44, 45, 46, 47, 48, 72, 73, 74, 75, 76, 77, 78, 79, 80] rfl (by decide +kernel)
set_option maxRecDepth 20000 in
theorem gX4_init_X0_init : GoodIn wsX4_init (wsX0_init) := ggX4_init_X0_init
set_option maxRecDepth 20000 in
theorem ggX4_init_X1_init : GoodIn wsX4_init wsX1_init := goodIn_r _ [50, 51, 2, 3, 27, 52, 53, 54, 55, 56, 81, 82, 83, 84, 85] rfl (by decide +kernel)
set_option maxRecDepth 20000 in
theorem gX4_init_X1_init_n41 : GoodIn wsX4_init (wsX1_init) := ggX4_init_X1_init
set_option maxRecDepth 20000 in
theorem ggX4_say_X3_add : GoodIn wsX4_say wsX3_add := goodIn_r _ [6, 7, 8, 15, 16, 17] rfl (by decide +kernel)
set_option maxRecDepth 20000 in
theorem gX4_say_X3_add : GoodIn wsX4_say (wsV RX4 46 RX3 yX3_add wsX3_add) := goodIn_app (goodIn_of _ (by decide +kernel)) ggX4_say_X3_add
set_option maxRecDepth 20000 in
theorem ggX4_wipe_X3_empty : GoodIn wsX4_wipe wsX3_empty := goodIn_r _ [6, 7, 14, 15, 16] rfl (by decide +kernel)
set_option maxRecDepth 20000 in
theorem gX4_wipe_X3_empty : GoodIn wsX4_wipe (wsV RX4 50 RX3 yX3_empty wsX3_empty) := goodIn_app (goodIn_of _ (by decide +kernel)) ggX4_wipe_X3_empty
set_option maxRecDepth 20000 in
theorem ggX4_fault_X4_faultAs : GoodIn wsX4_fault wsX4_faultAs := goodIn_r _ [5, 6, 7, 8, 9, 10, 11, 12, 13, 14, 15, 16, 17, 18, 19, 20, 21, 22, 23, 24, 25, 26, 27, 28, 29, 30, 31, 32, 33, 34, 35, 36, 37, 38, 39, 40, 41, 42, 43, 44, 45, 46, 47, 48, 49, 50, 51, 52, 53, 54, 55, 56, 57, 58, 59, 60, 61, 62, 63, 64, 65, 66, 67, 68, 69, 70, 71, 72, 73, 74, 75, 76, 77, 78, 79, 80, 81, 82, 83, 84, 85, 86, 87, 88, 89, 90, 91, 92, 93, 94, 95, 96, 97, 98, 99, 100, 101, 102, 103, 104, 105, 106, 107, 108, 109, 110, 111, 112, 113, 114, 115, 116, 117, 118, 119, 120, 121, 122, 123, 124, 125, 126, 127, 128, 129, 130, 131, 132, 133, 134, 135, 136, 137, 138, 139, 140, 141, 142, 143, 144, 145, 146, 147, 148, 149, 150, 151, 152, 153] rfl (by decide +kernel)
set_option maxRecDepth 20000 in
theorem gX4_fault_X4_faultAs : GoodIn wsX4_fault (wsV RX4 54 RX4 yX4_faultAs wsX4_faultAs) := goodIn_app (goodIn_of _ (by decide +kernel)) ggX4_fault_X4_faultAs
set_option maxRecDepth 20000 in
theorem ggX4_ring_X4_isRing : GoodIn wsX4_ring wsX4_isRing := goodIn_r _ [6] rfl (by decide +kernel)
set_option maxRecDepth 20000 in
theorem gX4_ring_X4_isRing : GoodIn wsX4_ring (va_wsS RX4 58 yX4_isRing wsX4_isRing) := goodIn_app (goodIn_of _ (by decide +kernel)) ggX4_ring_X4_isRing
set_option maxRecDepth 20000 in
theorem ggX4_ring_X4_faultAs : GoodIn wsX4_ring wsX4_faultAs := goodIn_r _ [10, 2, 1, 11, 12, 13, 14, 15, 16, 17, 18, 19, 20, 21, 22, 23, 24, 25, 26, 27, 28, 29, 30, 31, 32, 33, 34, 35, 36, 37, 38, 39, 40, 41, 42, 43, 44, 45, 46, 47, 48, 49, 50, 51, 52, 53, 54, 55, 56, 57, 58, 59, 60, 61, 62, 63, 64, 65, 66, 67, 68, 69, 70, 71, 72, 73, 74, 75, 76, 77, 78, 79, 80, 81, 82, 83, 84, 85, 86, 87, 88, 89, 90, 91, 92, 93, 94, 95, 96, 97, 98, 99, 100, 101, 102, 103, 104, 105, 106, 107, 108, 109, 110, 111, 112, 113, 114, 115, 116, 117, 118, 119, 120, 121, 122, 123, 124, 125, 126, 127, 128, 129, 130, 131, 132, 133, 134, 135, 136, 137, 138, 139, 140, 141, 172, 173, 174, 175, 176, 177, 178, 179, 180, 181, 182, 183, 184, 185, 186] rfl (by decide +kernel)
set_option maxRecDepth 20000 in
theorem gX4_ring_X4_faultAs : GoodIn wsX4_ring (wsV RX4 54 RX4 yX4_faultAs wsX4_faultAs) := goodIn_app (goodIn_of _ (by decide +kernel)) ggX4_ring_X4_faultAs
set_option maxRecDepth 20000 in
theorem ggX4_ring_X3_readRuns : GoodIn wsX4_ring wsX3_readRuns := goodIn_r _ [145, 16, 146, 17, 18, 19, 14, 20, 21, 22, 23, 24, 25, 26, 27, 28, 29, 30, 31, 32, 33, 34, 35, 36, 37, 38, 39, 40, 41, 42, 43, 44, 45, 46, 47, 48, 49, 50, 51, 52, 53, 54, 55, 56, 57, 58, 59, 60, 61, 62, 63, 64, 65, 66, 67, 68, 69, 70, 71, 72, 73, 74, 75, 76, 77, 78, 79, 80, 81, 82, 83, 84, 85, 86, 87, 88, 89, 90, 91, 92, 93, 94, 95, 96, 97, 98, 99, 100, 101, 102, 103, 104, 105, 106, 107, 108, 109, 110, 111, 112, 113, 114, 178, 179, 180] rfl (by decide +kernel)
set_option maxRecDepth 20000 in
theorem gX4_ring_X3_readRuns : GoodIn wsX4_ring (wsV RX4 64 RX3 yX3_readRuns wsX3_readRuns) := goodIn_app (goodIn_of _ (by decide +kernel)) ggX4_ring_X3_readRuns
set_option maxRecDepth 20000 in
theorem ggX4_ring_X2_setRing : GoodIn wsX4_ring wsX2_setRing := goodIn_r _ [150, 151, 152, 153, 154, 155, 181, 182, 183, 184, 185, 186] rfl (by decide +kernel)
set_option maxRecDepth 20000 in
theorem gX4_ring_X2_setRing : GoodIn wsX4_ring (wsV RX4 68 RX2 yX2_setRing wsX2_setRing) := goodIn_app (goodIn_of _ (by decide +kernel)) ggX4_ring_X2_setRing
set_option maxRecDepth 20000 in
theorem ggX4_ring_X4_forgetCuts : GoodIn wsX4_ring wsX4_forgetCuts := goodIn_r _ [159, 160, 161, 162, 163, 164, 165, 166, 167, 172, 173, 174, 175, 176, 177, 187, 188, 189, 190, 191, 192, 193, 194, 195] rfl (by decide +kernel)
set_option maxRecDepth 20000 in
theorem gX4_ring_X4_forgetCuts : GoodIn wsX4_ring (wsV RX4 72 RX4 yX4_forgetCuts wsX4_forgetCuts) := goodIn_app (goodIn_of _ (by decide +kernel)) ggX4_ring_X4_forgetCuts
set_option maxRecDepth 20000 in
theorem ggX4_ring_X3_empty : GoodIn wsX4_ring wsX3_empty := goodIn_r _ [171, 16, 178, 179, 180] rfl (by decide +kernel)
set_option maxRecDepth 20000 in
theorem gX4_ring_X3_empty : GoodIn wsX4_ring (wsV RX4 50 RX3 yX3_empty wsX3_empty) := goodIn_app (goodIn_of _ (by decide +kernel)) ggX4_ring_X3_empty
set_option maxRecDepth 20000 in
theorem ggX4_slices_X4_faultAs : GoodIn wsX4_slices wsX4_faultAs := goodIn_r _ [7, 2, 1, 8, 9, 10, 11, 12, 13, 14, 15, 16, 17, 18, 19, 20, 21, 22, 23, 24, 25, 26, 27, 28, 29, 30, 31, 32, 33, 34, 35, 36, 37, 38, 39, 40, 41, 42, 43, 44, 45, 46, 47, 48, 49, 50, 51, 52, 53, 54, 55, 56, 57, 58, 59, 60, 61, 62, 63, 64, 65, 66, 67, 68, 69, 70, 71, 72, 73, 74, 75, 76, 77, 78, 79, 80, 81, 82, 83, 84, 85, 86, 87, 88, 89, 90, 91, 92, 93, 94, 95, 96, 97, 98, 99, 100, 101, 102, 103, 104, 105, 106, 107, 108, 109, 110, 111, 112, 113, 114, 115, 116, 117, 118, 119, 120, 121, 122, 123, 124, 125, 126, 127, 128, 129, 130, 131, 132, 133, 134, 135, 136, 137, 138, 156, 157, 158, 159, 160, 161, 162, 163, 164, 165, 166, 167, 168, 169, 170] rfl (by decide +kernel)
set_option maxRecDepth 20000 in
theorem gX4_slices_X4_faultAs : GoodIn wsX4_slices (wsV RX4 54 RX4 yX4_faultAs wsX4_faultAs) := goodIn_app (goodIn_of _ (by decide +kernel)) ggX4_slices_X4_faultAs
set_option maxRecDepth 20000 in
theorem ggX4_slices_X3_readRuns : GoodIn wsX4_slices wsX3_readRuns := goodIn_r _ [142, 13, 143, 14, 15, 16, 11, 17, 18, 19, 20, 21, 22, 23, 24, 25, 26, 27, 28, 29, 30, 31, 32, 33, 34, 35, 36, 37, 38, 39, 40, 41, 42, 43, 44, 45, 46, 47, 48, 49, 50, 51, 52, 53, 54, 55, 56, 57, 58, 59, 60, 61, 62, 63, 64, 65, 66, 67, 68, 69, 70, 71, 72, 73, 74, 75, 76, 77, 78, 79, 80, 81, 82, 83, 84, 85, 86, 87, 88, 89, 90, 91, 92, 93, 94, 95, 96, 97, 98, 99, 100, 101, 102, 103, 104, 105, 106, 107, 108, 109, 110, 111, 162, 163, 164] rfl (by decide +kernel)
set_option maxRecDepth 20000 in
theorem gX4_slices_X3_readRuns : GoodIn wsX4_slices (wsV RX4 64 RX3 yX3_readRuns wsX3_readRuns) := goodIn_app (goodIn_of _ (by decide +kernel)) ggX4_slices_X3_readRuns
set_option maxRecDepth 20000 in
theorem ggX4_slices_X2_setSlices : GoodIn wsX4_slices wsX2_setSlices := goodIn_r _ [147, 126, 131, 148, 149, 150, 151, 165, 166, 167, 168, 169, 170] rfl (by decide +kernel)
set_option maxRecDepth 20000 in
theorem gX4_slices_X2_setSlices : GoodIn wsX4_slices (wsV RX4 77 RX2 yX2_setSlices wsX2_setSlices) := goodIn_app (goodIn_of _ (by decide +kernel)) ggX4_slices_X2_setSlices
set_option maxRecDepth 20000 in
theorem ggX4_slices_X3_empty : GoodIn wsX4_slices wsX3_empty := goodIn_r _ [155, 13, 162, 163, 164] rfl (by decide +kernel)
set_option maxRecDepth 20000 in
theorem gX4_slices_X3_empty : GoodIn wsX4_slices (wsV RX4 50 RX3 yX3_empty wsX3_empty) := goodIn_app (goodIn_of _ (by decide +kernel)) ggX4_slices_X3_empty
set_option maxRecDepth 20000 in
theorem ggX4_will_X4_faultAs : GoodIn wsX4_will wsX4_faultAs := goodIn_r _ [8, 3, 1, 9, 10, 11, 12, 13, 14, 15, 16, 17, 18, 19, 20, 21, 22, 23, 24, 25, 26, 27, 28, 29, 30, 31, 32, 33, 34, 35, 36, 37, 38, 39, 40, 41, 42, 43, 44, 45, 46, 47, 48, 49, 50, 51, 52, 53, 54, 55, 56, 57, 58, 59, 60, 61, 62, 63, 64, 65, 66, 67, 68, 69, 70, 71, 72, 73, 74, 75, 76, 77, 78, 79, 80, 81, 82, 83, 84, 85, 86, 87, 88, 89, 90, 91, 92, 93, 94, 95, 96, 97, 98, 99, 100, 101, 102, 103, 104, 105, 106, 107, 108, 109, 110, 111, 112, 113, 114, 115, 116, 117, 118, 119, 120, 121, 122, 123, 124, 125, 126, 127, 128, 129, 130, 131, 132, 133, 134, 135, 136, 137, 138, 139, 165, 166, 167, 168, 169, 170, 177, 178, 179, 171, 172, 173, 174, 175, 176] rfl (by decide +kernel)
set_option maxRecDepth 20000 in
theorem gX4_will_X4_faultAs : GoodIn wsX4_will (wsV RX4 54 RX4 yX4_faultAs wsX4_faultAs) := goodIn_app (goodIn_of _ (by decide +kernel)) ggX4_will_X4_faultAs
set_option maxRecDepth 20000 in
theorem ggX4_will_X3_letterAt : GoodIn wsX4_will wsX3_letterAt := goodIn_r _ [18, 14, 19, 20, 21, 22, 23, 24, 25, 26, 27, 28, 29, 30, 31, 32, 33, 34, 35, 36, 37, 38, 39, 40, 41, 42, 43, 44, 45, 46, 47, 48, 49, 50, 51, 52, 53, 54, 55, 56, 57, 58, 59, 60, 61, 62, 63, 64, 65, 66, 67, 68, 69, 70, 71, 72, 73, 74, 75, 76, 77, 78, 79, 80, 81, 82, 83, 84, 85, 86, 87, 88, 89, 90, 91, 92, 93, 94, 95, 96, 97, 98, 99, 100, 101, 102, 103, 104, 105, 106, 107, 108, 177, 178, 179] rfl (by decide +kernel)
set_option maxRecDepth 20000 in
theorem gX4_will_X3_letterAt : GoodIn wsX4_will (wsV RX4 85 RX3 yX3_letterAt wsX3_letterAt) := goodIn_app (goodIn_of _ (by decide +kernel)) ggX4_will_X3_letterAt
set_option maxRecDepth 20000 in
theorem ggX4_will_X2_beginGeneration : GoodIn wsX4_will wsX2_beginGeneration := goodIn_r _ [143, 132, 127, 144, 145, 146, 147, 171, 172, 173, 174, 175, 176] rfl (by decide +kernel)
set_option maxRecDepth 20000 in
theorem gX4_will_X2_beginGeneration : GoodIn wsX4_will (wsV RX4 89 RX2 yX2_beginGeneration wsX2_beginGeneration) := goodIn_app (goodIn_of _ (by decide +kernel)) ggX4_will_X2_beginGeneration
set_option maxRecDepth 20000 in
theorem ggX4_will_X3_readRuns : GoodIn wsX4_will wsX3_readRuns := goodIn_r _ [151, 14, 152, 15, 16, 17, 12, 18, 19, 20, 21, 22, 23, 24, 25, 26, 27, 28, 29, 30, 31, 32, 33, 34, 35, 36, 37, 38, 39, 40, 41, 42, 43, 44, 45, 46, 47, 48, 49, 50, 51, 52, 53, 54, 55, 56, 57, 58, 59, 60, 61, 62, 63, 64, 65, 66, 67, 68, 69, 70, 71, 72, 73, 74, 75, 76, 77, 78, 79, 80, 81, 82, 83, 84, 85, 86, 87, 88, 89, 90, 91, 92, 93, 94, 95, 96, 97, 98, 99, 100, 101, 102, 103, 104, 105, 106, 107, 108, 109, 110, 111, 112, 177, 178, 179] rfl (by decide +kernel)
set_option maxRecDepth 20000 in
theorem gX4_will_X3_readRuns : GoodIn wsX4_will (wsV RX4 64 RX3 yX3_readRuns wsX3_readRuns) := goodIn_app (goodIn_of _ (by decide +kernel)) ggX4_will_X3_readRuns
set_option maxRecDepth 20000 in
theorem ggX4_will_X2_giveAway : GoodIn wsX4_will wsX2_giveAway := goodIn_r _ [156, 123, 124, 125, 121, 126, 127, 128, 129, 130, 131, 132, 157, 158, 159, 160, 171, 172, 173, 174, 175, 176] rfl (by decide +kernel)
set_option maxRecDepth 20000 in
theorem gX4_will_X2_giveAway : GoodIn wsX4_will (wsV RX4 92 RX2 yX2_giveAway wsX2_giveAway) := goodIn_app (goodIn_of _ (by decide +kernel)) ggX4_will_X2_giveAway
set_option maxRecDepth 20000 in
theorem ggX4_will_X3_empty : GoodIn wsX4_will wsX3_empty := goodIn_r _ [164, 14, 177, 178, 179] rfl (by decide +kernel)
set_option maxRecDepth 20000 in
theorem gX4_will_X3_empty : GoodIn wsX4_will (wsV RX4 50 RX3 yX3_empty wsX3_empty) := goodIn_app (goodIn_of _ (by decide +kernel)) ggX4_will_X3_empty
set_option maxRecDepth 20000 in
theorem ggX4_wedding_X4_areTwoHeirs : GoodIn wsX4_wedding wsX4_areTwoHeirs := goodIn_r _ [6, 7, 8, 5, 9] rfl (by decide +kernel)
set_option maxRecDepth 20000 in
theorem gX4_wedding_X4_areTwoHeirs : GoodIn wsX4_wedding (va_wsS RX4 95 yX4_areTwoHeirs wsX4_areTwoHeirs) := goodIn_app (goodIn_of _ (by decide +kernel)) ggX4_wedding_X4_areTwoHeirs
set_option maxRecDepth 20000 in
theorem ggX4_wedding_X2_beginGeneration : GoodIn wsX4_wedding wsX2_beginGeneration := goodIn_r _ [14, 15, 16, 17, 18, 19, 20, 43, 44, 45, 46, 47, 48] rfl (by decide +kernel)
set_option maxRecDepth 20000 in
theorem gX4_wedding_X2_beginGeneration : GoodIn wsX4_wedding (wsV RX4 89 RX2 yX2_beginGeneration wsX2_beginGeneration) := goodIn_app (goodIn_of _ (by decide +kernel)) ggX4_wedding_X2_beginGeneration
set_option maxRecDepth 20000 in
theorem ggX4_wedding_X2_join : GoodIn wsX4_wedding wsX2_join := goodIn_r _ [24, 25, 26, 27, 13, 28, 16, 29, 30, 31, 32, 15, 33, 34, 35, 36, 43, 44, 45, 46, 47, 48] rfl (by decide +kernel)
set_option maxRecDepth 20000 in
theorem gX4_wedding_X2_join : GoodIn wsX4_wedding (wsV RX4 99 RX2 yX2_join wsX2_join) := goodIn_app (goodIn_of _ (by decide +kernel)) ggX4_wedding_X2_join
set_option maxRecDepth 20000 in
theorem ggX4_cell_X4_isRing : GoodIn wsX4_cell wsX4_isRing := goodIn_r _ [5] rfl (by decide +kernel)
set_option maxRecDepth 20000 in
theorem gX4_cell_X4_isRing : GoodIn wsX4_cell (va_wsS RX4 58 yX4_isRing wsX4_isRing) := goodIn_app (goodIn_of _ (by decide +kernel)) ggX4_cell_X4_isRing
set_option maxRecDepth 20000 in
theorem ggX4_cell_X4_isSector : GoodIn wsX4_cell wsX4_isSector := goodIn_r _ [8] rfl (by decide +kernel)
set_option maxRecDepth 20000 in
theorem gX4_cell_X4_isSector : GoodIn wsX4_cell (va_wsS RX4 103 yX4_isSector wsX4_isSector) := goodIn_app (goodIn_of _ (by decide +kernel)) ggX4_cell_X4_isSector
set_option maxRecDepth 20000 in
theorem ggX4_cell_X2_sortAt : GoodIn wsX4_cell wsX2_sortAt := goodIn_r _ [13, 14, 62, 63, 64, 65, 66, 67] rfl (by decide +kernel)
set_option maxRecDepth 20000 in
theorem gX4_cell_X2_sortAt : GoodIn wsX4_cell (wsV RX4 106 RX2 yX2_sortAt wsX2_sortAt) := goodIn_app (goodIn_of _ (by decide +kernel)) ggX4_cell_X2_sortAt
set_option maxRecDepth 20000 in
theorem ggX4_cell_J0_charAt_5068e : GoodIn wsX4_cell wsJ0_charAt_5068e := goodIn_r _ [19, 20, 21, 22, 23, 18, 24, 25, 26, 27, 28, 29, 30, 31, 32, 33, 34, 35, 36, 37, 38, 39, 40, 41, 42, 43, 44, 45, 46, 47, 48, 49, 50, 51, 52, 53, 54, 55] rfl (by decide +kernel)
set_option maxRecDepth 20000 in
theorem gX4_cell_J0_charAt_5068e : GoodIn wsX4_cell (wsV RX4 110 RJ0 yJ0_charAt_5068e wsJ0_charAt_5068e) := goodIn_app (goodIn_of _ (by decide +kernel)) ggX4_cell_J0_charAt_5068e
set_option maxRecDepth 20000 in
theorem ggX4_was_X4_isSector : GoodIn wsX4_was wsX4_isSector := goodIn_r _ [6] rfl (by decide +kernel)
set_option maxRecDepth 20000 in
theorem gX4_was_X4_isSector : GoodIn wsX4_was (va_wsS RX4 103 yX4_isSector wsX4_isSector) := goodIn_app (goodIn_of _ (by decide +kernel)) ggX4_was_X4_isSector
set_option maxRecDepth 20000 in
theorem ggX4_was_X2_ownerBehind : GoodIn wsX4_was wsX2_ownerBehind := goodIn_r _ [11, 12, 19, 20, 21, 22, 23, 24] rfl (by decide +kernel)
set_option maxRecDepth 20000 in
theorem gX4_was_X2_ownerBehind : GoodIn wsX4_was (wsV RX4 116 RX2 yX2_ownerBehind wsX2_ownerBehind) := goodIn_app (goodIn_of _ (by decide +kernel)) ggX4_was_X2_ownerBehind
set_option maxRecDepth 20000 in
theorem ggX4_has_X4_isHeir : GoodIn wsX4_has wsX4_isHeir := goodIn_r _ [5] rfl (by decide +kernel)
set_option maxRecDepth 20000 in
theorem gX4_has_X4_isHeir : GoodIn wsX4_has (va_wsS RX4 119 yX4_isHeir wsX4_isHeir) := goodIn_app (goodIn_of _ (by decide +kernel)) ggX4_has_X4_isHeir
set_option maxRecDepth 20000 in
theorem ggX4_has_X2_sectorsOf : GoodIn wsX4_has wsX2_sectorsOf := goodIn_r _ [10, 11, 12, 13, 9, 14, 15, 16, 17, 18, 19, 20, 27, 28, 29, 30, 31, 32] rfl (by decide +kernel)
set_option maxRecDepth 20000 in
theorem gX4_has_X2_sectorsOf : GoodIn wsX4_has (wsV RX4 122 RX2 yX2_sectorsOf wsX2_sectorsOf) := goodIn_app (goodIn_of _ (by decide +kernel)) ggX4_has_X2_sectorsOf
set_option maxRecDepth 20000 in
theorem ggX4_worth_X4_isHeir : GoodIn wsX4_worth wsX4_isHeir := goodIn_r _ [5] rfl (by decide +kernel)
set_option maxRecDepth 20000 in
theorem gX4_worth_X4_isHeir : GoodIn wsX4_worth (va_wsS RX4 119 yX4_isHeir wsX4_isHeir) := goodIn_app (goodIn_of _ (by decide +kernel)) ggX4_worth_X4_isHeir
set_option maxRecDepth 20000 in
theorem ggX4_worth_X4_sortOfCode : GoodIn wsX4_worth wsX4_sortOfCode := goodIn_r _ [8, 9, 10, 11, 12, 13, 14, 15, 16, 17, 18, 19, 20, 21, 22, 23, 24, 25, 26, 27, 28, 29, 30, 31, 32, 33, 34, 35, 36, 37, 38, 39, 40, 41, 42, 43, 44, 45, 46, 47, 48, 49, 50, 51, 52, 53, 54, 55, 56, 57, 58, 59, 60, 61, 62, 63, 64, 65, 66, 67, 68, 69, 70, 71, 72, 73, 74, 75, 76, 77, 78, 79, 80, 81, 82, 83, 84, 85, 86, 87, 88, 89, 90, 91, 92, 93, 94, 95, 96, 97] rfl (by decide +kernel)
set_option maxRecDepth 20000 in
theorem gX4_worth_X4_sortOfCode : GoodIn wsX4_worth (va_wsS RX4 125 yX4_sortOfCode wsX4_sortOfCode) := goodIn_app (goodIn_of _ (by decide +kernel)) ggX4_worth_X4_sortOfCode
set_option maxRecDepth 20000 in
theorem ggX4_worth_X4_forgetCuts : GoodIn wsX4_worth wsX4_forgetCuts := goodIn_r _ [101, 102, 103, 104, 105, 106, 107, 108, 109, 116, 117, 118, 119, 120, 121, 122, 123, 124, 125, 126, 127, 128, 129, 130] rfl (by decide +kernel)
set_option maxRecDepth 20000 in
theorem gX4_worth_X4_forgetCuts : GoodIn wsX4_worth (wsV RX4 72 RX4 yX4_forgetCuts wsX4_forgetCuts) := goodIn_app (goodIn_of _ (by decide +kernel)) ggX4_worth_X4_forgetCuts
set_option maxRecDepth 20000 in
theorem ggX4_worth_X2_setWorth : GoodIn wsX4_worth wsX2_setWorth := goodIn_r _ [114, 115, 131, 132, 133, 134, 135, 136] rfl (by decide +kernel)
set_option maxRecDepth 20000 in
theorem gX4_worth_X2_setWorth : GoodIn wsX4_worth (wsV RX4 128 RX2 yX2_setWorth wsX2_setWorth) := goodIn_app (goodIn_of _ (by decide +kernel)) ggX4_worth_X2_setWorth
set_option maxRecDepth 20000 in
theorem ggX4_share_X4_isHeir : GoodIn wsX4_share wsX4_isHeir := goodIn_r _ [6] rfl (by decide +kernel)
set_option maxRecDepth 20000 in
theorem gX4_share_X4_isHeir : GoodIn wsX4_share (va_wsS RX4 119 yX4_isHeir wsX4_isHeir) := goodIn_app (goodIn_of _ (by decide +kernel)) ggX4_share_X4_isHeir
set_option maxRecDepth 20000 in
theorem ggX4_share_X2_shareOf : GoodIn wsX4_share wsX2_shareOf := goodIn_r _ [11, 12, 13, 14, 10, 15, 16, 17, 18, 19, 20, 21, 28, 29, 30, 31, 32, 33] rfl (by decide +kernel)
set_option maxRecDepth 20000 in
theorem gX4_share_X2_shareOf : GoodIn wsX4_share (wsV RX4 133 RX2 yX2_shareOf wsX2_shareOf) := goodIn_app (goodIn_of _ (by decide +kernel)) ggX4_share_X2_shareOf
set_option maxRecDepth 20000 in
theorem ggX4_envies_X4_isHeir : GoodIn wsX4_envies wsX4_isHeir := goodIn_r _ [5] rfl (by decide +kernel)
set_option maxRecDepth 20000 in
theorem gX4_envies_X4_isHeir : GoodIn wsX4_envies (va_wsS RX4 119 yX4_isHeir wsX4_isHeir) := goodIn_app (goodIn_of _ (by decide +kernel)) ggX4_envies_X4_isHeir
set_option maxRecDepth 20000 in
theorem ggX4_envies_X2_sectorsOf : GoodIn wsX4_envies wsX2_sectorsOf := goodIn_r _ [10, 11, 12, 13, 9, 14, 15, 16, 17, 18, 19, 20, 41, 42, 43, 44, 45, 46] rfl (by decide +kernel)
set_option maxRecDepth 20000 in
theorem gX4_envies_X2_sectorsOf : GoodIn wsX4_envies (wsV RX4 122 RX2 yX2_sectorsOf wsX2_sectorsOf) := goodIn_app (goodIn_of _ (by decide +kernel)) ggX4_envies_X2_sectorsOf
set_option maxRecDepth 20000 in
theorem ggX4_envies_X2_shareOf : GoodIn wsX4_envies wsX2_shareOf := goodIn_r _ [24, 25, 26, 27, 9, 28, 29, 30, 31, 32, 33, 34, 41, 42, 43, 44, 45, 46] rfl (by decide +kernel)
set_option maxRecDepth 20000 in
theorem gX4_envies_X2_shareOf : GoodIn wsX4_envies (wsV RX4 133 RX2 yX2_shareOf wsX2_shareOf) := goodIn_app (goodIn_of _ (by decide +kernel)) ggX4_envies_X2_shareOf
set_option maxRecDepth 20000 in
theorem ggX4_fair_X4_answerOfCut : GoodIn wsX4_fair wsX4_answerOfCut := goodIn_r _ [6, 7, 8, 9, 10, 11, 12, 13, 14, 15, 16, 17, 18, 19, 20, 21, 22, 23, 24, 25, 26, 27, 28, 29, 30, 31, 32, 33, 34, 35, 36, 37, 38, 39, 40, 41, 42, 43, 44, 45, 46, 47, 48, 49, 50, 51, 52, 53, 54, 55, 56, 57, 58, 59, 60, 61, 62, 63, 64, 65, 66, 67, 68, 69, 70, 71, 72, 73, 74, 75, 76, 77, 78, 79, 80, 81, 82, 83, 84, 85, 86, 87, 88, 89, 90, 91, 92, 93, 94, 95, 96, 97, 98, 99, 100, 101, 102, 103, 104, 105, 106, 107, 108, 109, 110] rfl (by decide +kernel)
set_option maxRecDepth 20000 in
theorem gX4_fair_X4_answerOfCut : GoodIn wsX4_fair (wsV RX4 136 RX4 yX4_answerOfCut wsX4_answerOfCut) := goodIn_app (goodIn_of _ (by decide +kernel)) ggX4_fair_X4_answerOfCut
set_option maxRecDepth 20000 in
theorem ggX4_best_X4_answerOfCut : GoodIn wsX4_best wsX4_answerOfCut := goodIn_r _ [6, 7, 8, 9, 10, 11, 12, 13, 14, 15, 16, 17, 18, 19, 20, 21, 22, 23, 24, 25, 26, 27, 28, 29, 30, 31, 32, 33, 34, 35, 36, 37, 38, 39, 40, 41, 42, 43, 44, 45, 46, 47, 48, 49, 50, 51, 52, 53, 54, 55, 56, 57, 58, 59, 60, 61, 62, 63, 64, 65, 66, 67, 68, 69, 70, 71, 72, 73, 74, 75, 76, 77, 78, 79, 80, 81, 82, 83, 84, 85, 86, 87, 88, 89, 90, 91, 92, 93, 94, 95, 96, 97, 98, 99, 100, 101, 102, 103, 104, 105, 106, 107, 108, 109, 110] rfl (by decide +kernel)
set_option maxRecDepth 20000 in
theorem gX4_best_X4_answerOfCut : GoodIn wsX4_best (wsV RX4 136 RX4 yX4_answerOfCut wsX4_answerOfCut) := goodIn_app (goodIn_of _ (by decide +kernel)) ggX4_best_X4_answerOfCut
set_option maxRecDepth 20000 in
theorem ggX4_right_X4_areTwoHeirs : GoodIn wsX4_right wsX4_areTwoHeirs := goodIn_r _ [5, 6, 7, 4, 8] rfl (by decide +kernel)
set_option maxRecDepth 20000 in
theorem gX4_right_X4_areTwoHeirs : GoodIn wsX4_right (va_wsS RX4 95 yX4_areTwoHeirs wsX4_areTwoHeirs) := goodIn_app (goodIn_of _ (by decide +kernel)) ggX4_right_X4_areTwoHeirs
set_option maxRecDepth 20000 in
theorem ggX4_right_X2_setRight : GoodIn wsX4_right wsX2_setRight := goodIn_r _ [13, 14, 15, 16, 17, 12, 18, 25, 26, 27, 28, 29, 30] rfl (by decide +kernel)
set_option maxRecDepth 20000 in
theorem gX4_right_X2_setRight : GoodIn wsX4_right (wsV RX4 143 RX2 yX2_setRight wsX2_setRight) := goodIn_app (goodIn_of _ (by decide +kernel)) ggX4_right_X2_setRight
set_option maxRecDepth 20000 in
theorem ggX4_way_X4_isHeir : GoodIn wsX4_way wsX4_isHeir := goodIn_r _ [4] rfl (by decide +kernel)
set_option maxRecDepth 20000 in
theorem gX4_way_X4_isHeir : GoodIn wsX4_way (va_wsS RX4 119 yX4_isHeir wsX4_isHeir) := goodIn_app (goodIn_of _ (by decide +kernel)) ggX4_way_X4_isHeir
set_option maxRecDepth 20000 in
theorem ggX4_way_X4_isSector : GoodIn wsX4_way wsX4_isSector := goodIn_r _ [7] rfl (by decide +kernel)
set_option maxRecDepth 20000 in
theorem gX4_way_X4_isSector : GoodIn wsX4_way (va_wsS RX4 103 yX4_isSector wsX4_isSector) := goodIn_app (goodIn_of _ (by decide +kernel)) ggX4_way_X4_isSector
set_option maxRecDepth 20000 in
theorem ggX4_way_X4_bestWay : GoodIn wsX4_way wsX4_bestWay := goodIn_r _ [11, 12, 13, 14, 15, 16, 17, 18, 19, 3, 20, 21, 22, 23, 24, 25, 26, 27, 28, 29, 30, 31, 32, 33, 34, 35, 36, 37, 38, 39, 40, 41, 42, 43, 44, 45, 46, 47, 48, 49, 50, 51, 52, 53, 54, 55, 56, 57, 58, 59, 60, 61, 62, 63, 64, 65] rfl (by decide +kernel)
set_option maxRecDepth 20000 in
theorem gX4_way_X4_bestWay : GoodIn wsX4_way (wsV RX4 147 RX4 yX4_bestWay wsX4_bestWay) := goodIn_app (goodIn_of _ (by decide +kernel)) ggX4_way_X4_bestWay
set_option maxRecDepth 20000 in
theorem ggX4_stone_X4_isRing : GoodIn wsX4_stone wsX4_isRing := goodIn_r _ [4] rfl (by decide +kernel)
set_option maxRecDepth 20000 in
theorem gX4_stone_X4_isRing : GoodIn wsX4_stone (va_wsS RX4 58 yX4_isRing wsX4_isRing) := goodIn_app (goodIn_of _ (by decide +kernel)) ggX4_stone_X4_isRing
set_option maxRecDepth 20000 in
theorem ggX4_stone_X4_isSector : GoodIn wsX4_stone wsX4_isSector := goodIn_r _ [7] rfl (by decide +kernel)
set_option maxRecDepth 20000 in
theorem gX4_stone_X4_isSector : GoodIn wsX4_stone (va_wsS RX4 103 yX4_isSector wsX4_isSector) := goodIn_app (goodIn_of _ (by decide +kernel)) ggX4_stone_X4_isSector
set_option maxRecDepth 20000 in
theorem ggX4_stone_X4_hitByStone : GoodIn wsX4_stone wsX4_hitByStone := goodIn_r _ [11, 12, 13, 14, 15, 16, 17, 18, 19, 20, 21, 3, 22, 23, 24, 25, 26, 27, 28, 29, 30, 31, 32, 37, 38, 39, 40, 41, 42, 43, 44, 45, 46, 47, 48] rfl (by decide +kernel)
set_option maxRecDepth 20000 in
theorem gX4_stone_X4_hitByStone : GoodIn wsX4_stone (wsV RX4 151 RX4 yX4_hitByStone wsX4_hitByStone) := goodIn_app (goodIn_of _ (by decide +kernel)) ggX4_stone_X4_hitByStone
set_option maxRecDepth 20000 in
theorem ggX4_stone_X4_endOfStone : GoodIn wsX4_stone wsX4_endOfStone := goodIn_r _ [36, 12, 13, 14, 15, 16, 17, 18, 19, 20, 21, 3, 22, 37, 38, 39, 40, 41, 42, 43, 44, 45, 46, 47, 48] rfl (by decide +kernel)
set_option maxRecDepth 20000 in
theorem gX4_stone_X4_endOfStone : GoodIn wsX4_stone (wsV RX4 154 RX4 yX4_endOfStone wsX4_endOfStone) := goodIn_app (goodIn_of _ (by decide +kernel)) ggX4_stone_X4_endOfStone
set_option maxRecDepth 20000 in
theorem ggX4_avalanche_X4_isRing : GoodIn wsX4_avalanche wsX4_isRing := goodIn_r _ [5] rfl (by decide +kernel)
set_option maxRecDepth 20000 in
theorem gX4_avalanche_X4_isRing : GoodIn wsX4_avalanche (va_wsS RX4 58 yX4_isRing wsX4_isRing) := goodIn_app (goodIn_of _ (by decide +kernel)) ggX4_avalanche_X4_isRing
set_option maxRecDepth 20000 in
theorem ggX4_avalanche_X4_isSector : GoodIn wsX4_avalanche wsX4_isSector := goodIn_r _ [8] rfl (by decide +kernel)
set_option maxRecDepth 20000 in
theorem gX4_avalanche_X4_isSector : GoodIn wsX4_avalanche (va_wsS RX4 103 yX4_isSector wsX4_isSector) := goodIn_app (goodIn_of _ (by decide +kernel)) ggX4_avalanche_X4_isSector
set_option maxRecDepth 20000 in
theorem ggX4_avalanche_X2_sortAt : GoodIn wsX4_avalanche wsX2_sortAt := goodIn_r _ [13, 14, 55, 56, 57, 58, 59, 60] rfl (by decide +kernel)
set_option maxRecDepth 20000 in
theorem gX4_avalanche_X2_sortAt : GoodIn wsX4_avalanche (wsV RX4 106 RX2 yX2_sortAt wsX2_sortAt) := goodIn_app (goodIn_of _ (by decide +kernel)) ggX4_avalanche_X2_sortAt
set_option maxRecDepth 20000 in
theorem ggX4_avalanche_X4_runOfAvalanche : GoodIn wsX4_avalanche wsX4_runOfAvalanche := goodIn_r _ [18, 1, 19, 20, 4, 21, 22, 23, 24, 25, 12, 26, 27, 10, 11, 13, 14, 28, 29, 30, 31, 32, 33, 34, 35, 36, 37, 38, 39, 40, 41, 42, 43, 44, 45, 46, 47, 48, 49, 50, 51, 52, 53, 54, 55, 56, 57, 58, 59, 60] rfl (by decide +kernel)
set_option maxRecDepth 20000 in
theorem gX4_avalanche_X4_runOfAvalanche : GoodIn wsX4_avalanche (wsV RX4 157 RX4 yX4_runOfAvalanche wsX4_runOfAvalanche) := goodIn_app (goodIn_of _ (by decide +kernel)) ggX4_avalanche_X4_runOfAvalanche
set_option maxRecDepth 20000 in
theorem ggX4_rolls_X4_isHeir : GoodIn wsX4_rolls wsX4_isHeir := goodIn_r _ [5] rfl (by decide +kernel)
set_option maxRecDepth 20000 in
theorem gX4_rolls_X4_isHeir : GoodIn wsX4_rolls (va_wsS RX4 119 yX4_isHeir wsX4_isHeir) := goodIn_app (goodIn_of _ (by decide +kernel)) ggX4_rolls_X4_isHeir
set_option maxRecDepth 20000 in
theorem ggX4_rolls_X2_ownerOf : GoodIn wsX4_rolls wsX2_ownerOf := goodIn_r _ [10, 11, 12, 13, 14, 9, 15, 16, 36, 37, 38, 39, 40, 41] rfl (by decide +kernel)
set_option maxRecDepth 20000 in
theorem gX4_rolls_X2_ownerOf : GoodIn wsX4_rolls (wsV RX4 160 RX2 yX2_ownerOf wsX2_ownerOf) := goodIn_app (goodIn_of _ (by decide +kernel)) ggX4_rolls_X2_ownerOf
set_option maxRecDepth 20000 in
theorem ggX4_rolls_X4_hitByStone : GoodIn wsX4_rolls wsX4_hitByStone := goodIn_r _ [20, 1, 21, 22, 23, 9, 24, 25, 26, 27, 28, 4, 29, 6, 7, 8, 10, 11, 12, 13, 14, 15, 16, 30, 31, 32, 33, 34, 35, 36, 37, 38, 39, 40, 41] rfl (by decide +kernel)
set_option maxRecDepth 20000 in
theorem gX4_rolls_X4_hitByStone : GoodIn wsX4_rolls (wsV RX4 151 RX4 yX4_hitByStone wsX4_hitByStone) := goodIn_app (goodIn_of _ (by decide +kernel)) ggX4_rolls_X4_hitByStone
set_option maxRecDepth 20000 in
theorem ggX4_fence_X4_isHeir : GoodIn wsX4_fence wsX4_isHeir := goodIn_r _ [6] rfl (by decide +kernel)
set_option maxRecDepth 20000 in
theorem gX4_fence_X4_isHeir : GoodIn wsX4_fence (va_wsS RX4 119 yX4_isHeir wsX4_isHeir) := goodIn_app (goodIn_of _ (by decide +kernel)) ggX4_fence_X4_isHeir
set_option maxRecDepth 20000 in
theorem ggX4_fence_X1_lengthFor : GoodIn wsX4_fence wsX1_lengthFor := goodIn_r _ [11, 12, 13, 14, 15, 16, 17, 18, 19, 20, 21, 22, 23, 24, 25, 26, 27, 28, 29, 30, 31, 10, 32, 33, 34, 35, 36, 37, 38, 39, 40, 41, 42, 43, 44, 45, 46, 47, 48, 49, 50, 51, 52, 53, 54, 55, 56, 57, 58, 65, 66, 67, 68, 69, 70, 71, 72, 73, 74, 75] rfl (by decide +kernel)
set_option maxRecDepth 20000 in
theorem gX4_fence_X1_lengthFor : GoodIn wsX4_fence (wsV RX4 163 RX1 yX1_lengthFor wsX1_lengthFor) := goodIn_app (goodIn_of _ (by decide +kernel)) ggX4_fence_X1_lengthFor
set_option maxRecDepth 20000 in
theorem ggX4_spring_X4_isSector : GoodIn wsX4_spring wsX4_isSector := goodIn_r _ [5] rfl (by decide +kernel)
set_option maxRecDepth 20000 in
theorem gX4_spring_X4_isSector : GoodIn wsX4_spring (va_wsS RX4 103 yX4_isSector wsX4_isSector) := goodIn_app (goodIn_of _ (by decide +kernel)) ggX4_spring_X4_isSector
set_option maxRecDepth 20000 in
theorem ggX4_spring_X2_ownerOf : GoodIn wsX4_spring wsX2_ownerOf := goodIn_r _ [10, 11, 12, 13, 14, 9, 15, 16, 31, 32, 33, 34, 35, 36] rfl (by decide +kernel)
set_option maxRecDepth 20000 in
theorem gX4_spring_X2_ownerOf : GoodIn wsX4_spring (wsV RX4 160 RX2 yX2_ownerOf wsX2_ownerOf) := goodIn_app (goodIn_of _ (by decide +kernel)) ggX4_spring_X2_ownerOf
set_option maxRecDepth 20000 in
theorem ggX4_spring_X4_yearsOfSpring : GoodIn wsX4_spring wsX4_yearsOfSpring := goodIn_r _ [20, 1, 6, 7, 8, 9, 10, 11, 12, 13, 14, 15, 16, 25, 26, 27, 28, 29, 30, 31, 32, 33, 34, 35, 36] rfl (by decide +kernel)
set_option maxRecDepth 20000 in
theorem gX4_spring_X4_yearsOfSpring : GoodIn wsX4_spring (wsV RX4 167 RX4 yX4_yearsOfSpring wsX4_yearsOfSpring) := goodIn_app (goodIn_of _ (by decide +kernel)) ggX4_spring_X4_yearsOfSpring
set_option maxRecDepth 20000 in
theorem ggX4_spring_X4_firstYearOfSpring : GoodIn wsX4_spring wsX4_firstYearOfSpring := goodIn_r _ [24, 1, 6, 7, 8, 9, 10, 11, 12, 13, 14, 15, 16, 25, 26, 27, 28, 29, 30, 31, 32, 33, 34, 35, 36] rfl (by decide +kernel)
set_option maxRecDepth 20000 in
theorem gX4_spring_X4_firstYearOfSpring : GoodIn wsX4_spring (wsV RX4 170 RX4 yX4_firstYearOfSpring wsX4_firstYearOfSpring) := goodIn_app (goodIn_of _ (by decide +kernel)) ggX4_spring_X4_firstYearOfSpring
set_option maxRecDepth 20000 in
theorem ggX4_bounds_X4_boundsAsOne : GoodIn wsX4_bounds wsX4_boundsAsOne := goodIn_r _ [5, 6, 7, 8, 9, 10, 11, 12, 13, 14, 15, 16, 17, 18, 19, 4, 20, 42, 43, 44, 45, 46, 47, 48, 49, 50, 51, 52, 53] rfl (by decide +kernel)
set_option maxRecDepth 20000 in
theorem gX4_bounds_X4_boundsAsOne : GoodIn wsX4_bounds (wsV RX4 173 RX4 yX4_boundsAsOne wsX4_boundsAsOne) := goodIn_app (goodIn_of _ (by decide +kernel)) ggX4_bounds_X4_boundsAsOne
set_option maxRecDepth 20000 in
theorem ggX4_bounds_X4_bestWedding : GoodIn wsX4_bounds wsX4_bestWedding := goodIn_r _ [24, 6, 25, 26, 27, 10, 28, 29, 8, 9, 11, 12, 13, 14, 15, 16, 17, 1, 2, 3, 4, 5, 7, 18, 19, 20, 42, 43, 44, 45, 46, 47, 48, 49, 50, 51, 52, 53] rfl (by decide +kernel)
set_option maxRecDepth 20000 in
theorem gX4_bounds_X4_bestWedding : GoodIn wsX4_bounds (wsV RX4 176 RX4 yX4_bestWedding wsX4_bestWedding) := goodIn_app (goodIn_of _ (by decide +kernel)) ggX4_bounds_X4_bestWedding
set_option maxRecDepth 20000 in
theorem ggX4_bounds_X4_narrowestPiece : GoodIn wsX4_bounds wsX4_narrowestPiece := goodIn_r _ [33, 6, 34, 35, 36, 37, 7, 8, 9, 10, 11, 12, 13, 14, 15, 16, 17, 38, 39, 40, 4, 41, 42, 43, 44, 45, 46, 47, 48, 49, 50, 51, 52, 53] rfl (by decide +kernel)
set_option maxRecDepth 20000 in
theorem gX4_bounds_X4_narrowestPiece : GoodIn wsX4_bounds (wsV RX4 179 RX4 yX4_narrowestPiece wsX4_narrowestPiece) := goodIn_app (goodIn_of _ (by decide +kernel)) ggX4_bounds_X4_narrowestPiece
set_option maxRecDepth 20000 in
theorem ggX4_image_X4_isImage : GoodIn wsX4_image wsX4_isImage := goodIn_r _ [9] rfl (by decide +kernel)
set_option maxRecDepth 20000 in
theorem gX4_image_X4_isImage : GoodIn wsX4_image (va_wsS RX4 182 yX4_isImage wsX4_isImage) := goodIn_app (goodIn_of _ (by decide +kernel)) ggX4_image_X4_isImage
set_option maxRecDepth 20000 in
theorem ggX4_image_X2_init : GoodIn wsX4_image wsX2_init := goodIn_r _ [12, 13, 14, 15, 16, 17, 18, 19, 20, 21, 37, 38, 39, 40, 41, 42] rfl (by decide +kernel)
set_option maxRecDepth 20000 in
theorem gX4_image_X2_init : GoodIn wsX4_image (wsX2_init) := ggX4_image_X2_init
set_option maxRecDepth 20000 in
theorem ggX4_image_X2_copyFrom : GoodIn wsX4_image wsX2_copyFrom := goodIn_r _ [25, 17, 26, 27, 28, 29, 18, 19, 20, 30, 21, 37, 38, 39, 40, 41, 42] rfl (by decide +kernel)
set_option maxRecDepth 20000 in
theorem gX4_image_X2_copyFrom : GoodIn wsX4_image (wsV RX4 185 RX2 yX2_copyFrom wsX2_copyFrom) := goodIn_app (goodIn_of _ (by decide +kernel)) ggX4_image_X2_copyFrom
set_option maxRecDepth 20000 in
theorem ggX4_restore_X4_isImage : GoodIn wsX4_restore wsX4_isImage := goodIn_r _ [6] rfl (by decide +kernel)
set_option maxRecDepth 20000 in
theorem gX4_restore_X4_isImage : GoodIn wsX4_restore (va_wsS RX4 182 yX4_isImage wsX4_isImage) := goodIn_app (goodIn_of _ (by decide +kernel)) ggX4_restore_X4_isImage
set_option maxRecDepth 20000 in
theorem ggX4_restore_X2_copyFrom : GoodIn wsX4_restore wsX2_copyFrom := goodIn_r _ [11, 12, 13, 14, 15, 16, 17, 18, 19, 20, 21, 40, 41, 42, 43, 44, 45] rfl (by decide +kernel)
set_option maxRecDepth 20000 in
theorem gX4_restore_X2_copyFrom : GoodIn wsX4_restore (wsV RX4 185 RX2 yX2_copyFrom wsX2_copyFrom) := goodIn_app (goodIn_of _ (by decide +kernel)) ggX4_restore_X2_copyFrom
set_option maxRecDepth 20000 in
theorem ggX4_restore_X4_forgetCuts : GoodIn wsX4_restore wsX4_forgetCuts := goodIn_r _ [25, 26, 27, 28, 29, 30, 31, 32, 33, 34, 35, 36, 37, 38, 39, 46, 47, 48, 49, 50, 51, 52, 53, 54] rfl (by decide +kernel)
set_option maxRecDepth 20000 in
theorem gX4_restore_X4_forgetCuts : GoodIn wsX4_restore (wsV RX4 72 RX4 yX4_forgetCuts wsX4_forgetCuts) := goodIn_app (goodIn_of _ (by decide +kernel)) ggX4_restore_X4_forgetCuts
set_option maxRecDepth 20000 in
theorem ggX4_told_X2_sectorsOf : GoodIn wsX4_told wsX2_sectorsOf := goodIn_r _ [12, 13, 14, 15, 11, 16, 17, 18, 19, 20, 21, 22, 39, 40, 41, 42, 43, 44] rfl (by decide +kernel)
set_option maxRecDepth 20000 in
theorem gX4_told_X2_sectorsOf : GoodIn wsX4_told (wsV RX4 122 RX2 yX2_sectorsOf wsX2_sectorsOf) := goodIn_app (goodIn_of _ (by decide +kernel)) ggX4_told_X2_sectorsOf
set_option maxRecDepth 20000 in
theorem ggX4_told_J6_bitCount_0f7a4 : GoodIn wsX4_told wsJ6_bitCount_0f7a4 := goodIn_r _ [26, 27, 28, 29] rfl (by decide +kernel)
set_option maxRecDepth 20000 in
theorem gX4_told_J6_bitCount_0f7a4 : GoodIn wsX4_told (va_wsS RX4 192 yJ6_bitCount_0f7a4 wsJ6_bitCount_0f7a4) := goodIn_app (goodIn_of _ (by decide +kernel)) ggX4_told_J6_bitCount_0f7a4
set_option maxRecDepth 20000 in
theorem ggX4_areTwoHeirs_X4_isHeir : GoodIn wsX4_areTwoHeirs wsX4_isHeir := goodIn_r _ [4] rfl (by decide +kernel)
set_option maxRecDepth 20000 in
theorem gX4_areTwoHeirs_X4_isHeir : GoodIn wsX4_areTwoHeirs (va_wsS RX4 119 yX4_isHeir wsX4_isHeir) := goodIn_app (goodIn_of _ (by decide +kernel)) ggX4_areTwoHeirs_X4_isHeir
set_option maxRecDepth 20000 in
theorem ggX4_sortOfCode_J0_indexOf_0f7a4 : GoodIn wsX4_sortOfCode wsJ0_indexOf_0f7a4 := goodIn_r _ [5, 6, 7, 8, 4, 9, 10, 11, 12, 13, 14, 15, 16, 17, 18, 19, 20, 21, 22, 23, 24, 25, 26, 27, 28, 29, 30, 31, 32, 33, 34, 35, 36, 37, 38, 39, 40, 41, 42, 43, 44, 45, 46, 47, 48, 49, 50, 51, 52, 53, 54, 55, 56, 57, 58, 59, 60, 61, 62, 63, 64, 65, 66, 67, 68, 69, 70, 71, 72, 73, 74, 75, 76, 77, 78, 79, 80, 81, 82, 83, 84, 85, 86, 87, 88, 89] rfl (by decide +kernel)
set_option maxRecDepth 20000 in
theorem gX4_sortOfCode_J0_indexOf_0f7a4 : GoodIn wsX4_sortOfCode (wsV RX4 204 RJ0 yJ0_indexOf_0f7a4 wsJ0_indexOf_0f7a4) := goodIn_app (goodIn_of _ (by decide +kernel)) ggX4_sortOfCode_J0_indexOf_0f7a4
set_option maxRecDepth 20000 in
theorem ggX4_faultAs_X3_faultOfRuns : GoodIn wsX4_faultAs wsX3_faultOfRuns := goodIn_r _ [7, 8, 9, 10, 11, 6, 12, 13, 14, 15, 16, 17, 18, 19, 20, 21, 22, 23, 24, 25, 26, 27, 28, 29, 30, 31, 32, 33, 34, 35, 36, 37, 38, 39, 40, 41, 42, 43, 44, 45, 46, 47, 48, 49, 50, 51, 52, 53, 54, 55, 56, 57, 58, 59, 60, 61, 62, 63, 64, 65, 66, 67, 68, 69, 70, 71, 72, 73, 74, 75, 76, 77, 78, 79, 80, 81, 82, 83, 84, 85, 86, 87, 88, 89, 90, 91, 92, 93, 94, 95, 96, 97, 98, 99, 100, 101, 102, 103, 104, 105, 106, 140, 141, 142] rfl (by decide +kernel)
set_option maxRecDepth 20000 in
theorem gX4_faultAs_X3_faultOfRuns : GoodIn wsX4_faultAs (wsV RX4 207 RX3 yX3_faultOfRuns wsX3_faultOfRuns) := goodIn_app (goodIn_of _ (by decide +kernel)) ggX4_faultAs_X3_faultOfRuns
set_option maxRecDepth 20000 in
theorem ggX4_faultAs_X3_letterAt : GoodIn wsX4_faultAs wsX3_letterAt := goodIn_r _ [12, 8, 13, 14, 15, 16, 17, 18, 19, 20, 21, 22, 23, 24, 25, 26, 27, 28, 29, 30, 31, 32, 33, 34, 35, 36, 37, 38, 39, 40, 41, 42, 43, 44, 45, 46, 47, 48, 49, 50, 51, 52, 53, 54, 55, 56, 57, 58, 59, 60, 61, 62, 63, 64, 65, 66, 67, 68, 69, 70, 71, 72, 73, 74, 75, 76, 77, 78, 79, 80, 81, 82, 83, 84, 85, 86, 87, 88, 89, 90, 91, 92, 93, 94, 95, 96, 97, 98, 99, 100, 101, 102, 140, 141, 142] rfl (by decide +kernel)
set_option maxRecDepth 20000 in
theorem gX4_faultAs_X3_letterAt : GoodIn wsX4_faultAs (wsV RX4 85 RX3 yX3_letterAt wsX3_letterAt) := goodIn_app (goodIn_of _ (by decide +kernel)) ggX4_faultAs_X3_letterAt
set_option maxRecDepth 20000 in
theorem ggX4_faultAs_X3_hasAt : GoodIn wsX4_faultAs wsX3_hasAt := goodIn_r _ [111, 8, 13, 140, 141, 142] rfl (by decide +kernel)
set_option maxRecDepth 20000 in
theorem gX4_faultAs_X3_hasAt : GoodIn wsX4_faultAs (wsV RX4 211 RX3 yX3_hasAt wsX3_hasAt) := goodIn_app (goodIn_of _ (by decide +kernel)) ggX4_faultAs_X3_hasAt
set_option maxRecDepth 20000 in
theorem ggX4_faultAs_X2_sectorsOf : GoodIn wsX4_faultAs wsX2_sectorsOf := goodIn_r _ [116, 117, 118, 119, 115, 120, 121, 122, 123, 124, 125, 126, 143, 144, 145, 146, 147, 148] rfl (by decide +kernel)
set_option maxRecDepth 20000 in
theorem gX4_faultAs_X2_sectorsOf : GoodIn wsX4_faultAs (wsV RX4 122 RX2 yX2_sectorsOf wsX2_sectorsOf) := goodIn_app (goodIn_of _ (by decide +kernel)) ggX4_faultAs_X2_sectorsOf
set_option maxRecDepth 20000 in
theorem ggX4_faultAs_J6_bitCount_0f7a4 : GoodIn wsX4_faultAs wsJ6_bitCount_0f7a4 := goodIn_r _ [130, 131, 132, 133] rfl (by decide +kernel)
set_option maxRecDepth 20000 in
theorem gX4_faultAs_J6_bitCount_0f7a4 : GoodIn wsX4_faultAs (va_wsS RX4 192 yJ6_bitCount_0f7a4 wsJ6_bitCount_0f7a4) := goodIn_app (goodIn_of _ (by decide +kernel)) ggX4_faultAs_J6_bitCount_0f7a4
set_option maxRecDepth 20000 in
theorem ggX4_answerOfCut_X0_searchAmong : GoodIn wsX4_answerOfCut wsX0_searchAmong := goodIn_r _ [6, 7, 8, 9, 10, 11, 12, 13, 14, 15, 16, 17, 5, 18, 19, 20, 21, 22, 23, 24, 25, 26, 27, 28, 29, 30, 31, 32, 33, 34, 35, 36, 37, 38, 39, 40, 41, 42, 43, 44, 45, 46, 47, 48, 49, 50, 51, 52, 53, 54, 55, 56, 57, 58, 59, 60, 61, 62, 63, 64, 65, 66, 67, 68, 69, 70, 71, 72, 73, 74, 75, 76, 77, 78, 79, 90, 91, 92, 93, 94, 95, 96, 97, 98, 99, 100, 101, 102, 103, 104] rfl (by decide +kernel)
set_option maxRecDepth 20000 in
theorem gX4_answerOfCut_X0_searchAmong : GoodIn wsX4_answerOfCut (wsV RX4 215 RX0 yX0_searchAmong wsX0_searchAmong) := goodIn_app (goodIn_of _ (by decide +kernel)) ggX4_answerOfCut_X0_searchAmong
set_option maxRecDepth 20000 in
theorem ggX4_answerOfCut_X0_answer : GoodIn wsX4_answerOfCut wsX0_answer := goodIn_r _ [83, 35, 8, 7, 70, 75, 36, 37, 38, 5, 39, 90, 91, 92, 93, 94, 95, 96, 97, 98] rfl (by decide +kernel)
set_option maxRecDepth 20000 in
theorem gX4_answerOfCut_X0_answer : GoodIn wsX4_answerOfCut (wsV RX4 219 RX0 yX0_answer wsX0_answer) := goodIn_app (goodIn_of _ (by decide +kernel)) ggX4_answerOfCut_X0_answer
set_option maxRecDepth 20000 in
theorem ggX4_forgetCuts_X0_forget : GoodIn wsX4_forgetCuts wsX0_forget := goodIn_r _ [7, 8, 15, 16, 17, 18, 19, 20, 21, 22, 23] rfl (by decide +kernel)
set_option maxRecDepth 20000 in
theorem gX4_forgetCuts_X0_forget : GoodIn wsX4_forgetCuts (wsV RX4 222 RX0 yX0_forget wsX0_forget) := goodIn_app (goodIn_of _ (by decide +kernel)) ggX4_forgetCuts_X0_forget
set_option maxRecDepth 20000 in
theorem ggX4_bestWay_X4_costOfWay : GoodIn wsX4_bestWay wsX4_costOfWay := goodIn_r _ [10, 11, 12, 9, 13, 14, 15, 16, 17, 18, 19, 20, 21, 22, 23, 24, 25, 26, 27, 28, 29, 30, 31, 32, 33, 34, 35, 36, 37, 38, 39, 44, 45, 46, 47, 48, 49, 50, 51, 52, 53, 54, 55] rfl (by decide +kernel)
set_option maxRecDepth 20000 in
theorem gX4_bestWay_X4_costOfWay : GoodIn wsX4_bestWay (wsV RX4 226 RX4 yX4_costOfWay wsX4_costOfWay) := goodIn_app (goodIn_of _ (by decide +kernel)) ggX4_bestWay_X4_costOfWay
set_option maxRecDepth 20000 in
theorem ggX4_bestWay_X4_costOfWayBack : GoodIn wsX4_bestWay wsX4_costOfWayBack := goodIn_r _ [43, 11, 12, 9, 13, 14, 15, 16, 17, 18, 19, 20, 21, 22, 23, 24, 25, 26, 27, 28, 29, 30, 31, 32, 33, 34, 35, 36, 37, 38, 39, 44, 45, 46, 47, 48, 49, 50, 51, 52, 53, 54, 55] rfl (by decide +kernel)
set_option maxRecDepth 20000 in
theorem gX4_bestWay_X4_costOfWayBack : GoodIn wsX4_bestWay (wsV RX4 229 RX4 yX4_costOfWayBack wsX4_costOfWayBack) := goodIn_app (goodIn_of _ (by decide +kernel)) ggX4_bestWay_X4_costOfWayBack
set_option maxRecDepth 20000 in
theorem ggX4_costOfWay_X4_costOfClimb : GoodIn wsX4_costOfWay wsX4_costOfClimb := goodIn_r _ [4] rfl (by decide +kernel)
set_option maxRecDepth 20000 in
theorem gX4_costOfWay_X4_costOfClimb : GoodIn wsX4_costOfWay (va_wsS RX4 237 yX4_costOfClimb wsX4_costOfClimb) := goodIn_app (goodIn_of _ (by decide +kernel)) ggX4_costOfWay_X4_costOfClimb
set_option maxRecDepth 20000 in
theorem ggX4_costOfWay_X4_costOfRound : GoodIn wsX4_costOfWay wsX4_costOfRound := goodIn_r _ [8, 9, 10, 11, 12, 13, 14, 15, 16, 17, 18, 19, 20, 21, 22, 23, 24, 25, 26, 27, 28, 29, 30, 31, 32, 33, 34, 35, 36, 37, 38, 39, 40, 41, 42] rfl (by decide +kernel)
set_option maxRecDepth 20000 in
theorem gX4_costOfWay_X4_costOfRound : GoodIn wsX4_costOfWay (wsV RX4 240 RX4 yX4_costOfRound wsX4_costOfRound) := goodIn_app (goodIn_of _ (by decide +kernel)) ggX4_costOfWay_X4_costOfRound
set_option maxRecDepth 20000 in
theorem ggX4_costOfWayBack_X4_costOfClimb : GoodIn wsX4_costOfWayBack wsX4_costOfClimb := goodIn_r _ [4] rfl (by decide +kernel)
set_option maxRecDepth 20000 in
theorem gX4_costOfWayBack_X4_costOfClimb : GoodIn wsX4_costOfWayBack (va_wsS RX4 237 yX4_costOfClimb wsX4_costOfClimb) := goodIn_app (goodIn_of _ (by decide +kernel)) ggX4_costOfWayBack_X4_costOfClimb
set_option maxRecDepth 20000 in
theorem ggX4_costOfWayBack_X4_costOfRound : GoodIn wsX4_costOfWayBack wsX4_costOfRound := goodIn_r _ [8, 9, 10, 11, 12, 13, 14, 15, 16, 17, 18, 19, 20, 21, 22, 23, 24, 25, 26, 27, 28, 29, 30, 31, 32, 33, 34, 35, 36, 37, 38, 39, 40, 41, 42] rfl (by decide +kernel)
set_option maxRecDepth 20000 in
theorem gX4_costOfWayBack_X4_costOfRound : GoodIn wsX4_costOfWayBack (wsV RX4 240 RX4 yX4_costOfRound wsX4_costOfRound) := goodIn_app (goodIn_of _ (by decide +kernel)) ggX4_costOfWayBack_X4_costOfRound
set_option maxRecDepth 20000 in
theorem ggX4_costOfRound_X2_isFreeFor : GoodIn wsX4_costOfRound wsX2_isFreeFor := goodIn_r _ [7, 8, 9, 10, 6, 11, 12, 13, 14, 15, 16, 17, 18, 19, 20, 21, 22, 29, 30, 31, 32, 33, 34] rfl (by decide +kernel)
set_option maxRecDepth 20000 in
theorem gX4_costOfRound_X2_isFreeFor : GoodIn wsX4_costOfRound (wsV RX4 243 RX2 yX2_isFreeFor wsX2_isFreeFor) := goodIn_app (goodIn_of _ (by decide +kernel)) ggX4_costOfRound_X2_isFreeFor
set_option maxRecDepth 20000 in
theorem ggX4_sectorBelow_X2_sortAt : GoodIn wsX4_sectorBelow wsX2_sortAt := goodIn_r _ [6, 7, 14, 15, 16, 17, 18, 19] rfl (by decide +kernel)
set_option maxRecDepth 20000 in
theorem gX4_sectorBelow_X2_sortAt : GoodIn wsX4_sectorBelow (wsV RX4 106 RX2 yX2_sortAt wsX2_sortAt) := goodIn_app (goodIn_of _ (by decide +kernel)) ggX4_sectorBelow_X2_sortAt
set_option maxRecDepth 20000 in
theorem ggX4_hitByStone_X2_sortAt : GoodIn wsX4_hitByStone wsX2_sortAt := goodIn_r _ [6, 7, 29, 30, 31, 32, 33, 34] rfl (by decide +kernel)
set_option maxRecDepth 20000 in
theorem gX4_hitByStone_X2_sortAt : GoodIn wsX4_hitByStone (wsV RX4 106 RX2 yX2_sortAt wsX2_sortAt) := goodIn_app (goodIn_of _ (by decide +kernel)) ggX4_hitByStone_X2_sortAt
set_option maxRecDepth 20000 in
theorem ggX4_hitByStone_X4_sectorBelow : GoodIn wsX4_hitByStone wsX4_sectorBelow := goodIn_r _ [12, 1, 2, 3, 4, 5, 6, 7, 23, 24, 25, 26, 27, 28, 29, 30, 31, 32, 33, 34] rfl (by decide +kernel)
set_option maxRecDepth 20000 in
theorem gX4_hitByStone_X4_sectorBelow : GoodIn wsX4_hitByStone (wsV RX4 246 RX4 yX4_sectorBelow wsX4_sectorBelow) := goodIn_app (goodIn_of _ (by decide +kernel)) ggX4_hitByStone_X4_sectorBelow
set_option maxRecDepth 20000 in
theorem ggX4_hitByStone_X2_ownerOf : GoodIn wsX4_hitByStone wsX2_ownerOf := goodIn_r _ [16, 17, 18, 19, 20, 5, 21, 22, 29, 30, 31, 32, 33, 34] rfl (by decide +kernel)
set_option maxRecDepth 20000 in
theorem gX4_hitByStone_X2_ownerOf : GoodIn wsX4_hitByStone (wsV RX4 160 RX2 yX2_ownerOf wsX2_ownerOf) := goodIn_app (goodIn_of _ (by decide +kernel)) ggX4_hitByStone_X2_ownerOf
set_option maxRecDepth 20000 in
theorem ggX4_endOfStone_X2_sortAt : GoodIn wsX4_endOfStone wsX2_sortAt := goodIn_r _ [6, 7, 19, 20, 21, 22, 23, 24] rfl (by decide +kernel)
set_option maxRecDepth 20000 in
theorem gX4_endOfStone_X2_sortAt : GoodIn wsX4_endOfStone (wsV RX4 106 RX2 yX2_sortAt wsX2_sortAt) := goodIn_app (goodIn_of _ (by decide +kernel)) ggX4_endOfStone_X2_sortAt
set_option maxRecDepth 20000 in
theorem ggX4_endOfStone_X4_sectorBelow : GoodIn wsX4_endOfStone wsX4_sectorBelow := goodIn_r _ [12, 1, 2, 3, 4, 5, 6, 7, 13, 14, 15, 16, 17, 18, 19, 20, 21, 22, 23, 24] rfl (by decide +kernel)
set_option maxRecDepth 20000 in
theorem gX4_endOfStone_X4_sectorBelow : GoodIn wsX4_endOfStone (wsV RX4 246 RX4 yX4_sectorBelow wsX4_sectorBelow) := goodIn_app (goodIn_of _ (by decide +kernel)) ggX4_endOfStone_X4_sectorBelow
set_option maxRecDepth 20000 in
theorem ggX4_runOfAvalanche_X4_withThoseBeside : GoodIn wsX4_runOfAvalanche wsX4_withThoseBeside := goodIn_r _ [5, 6] rfl (by decide +kernel)
set_option maxRecDepth 20000 in
theorem gX4_runOfAvalanche_X4_withThoseBeside : GoodIn wsX4_runOfAvalanche (va_wsS RX4 249 yX4_withThoseBeside wsX4_withThoseBeside) := goodIn_app (goodIn_of _ (by decide +kernel)) ggX4_runOfAvalanche_X4_withThoseBeside
set_option maxRecDepth 20000 in
theorem ggX4_runOfAvalanche_X2_sectorsOfSort : GoodIn wsX4_runOfAvalanche wsX2_sectorsOfSort := goodIn_r _ [11, 12, 13, 14, 10, 15, 16, 44, 45, 46, 47, 48, 49] rfl (by decide +kernel)
set_option maxRecDepth 20000 in
theorem gX4_runOfAvalanche_X2_sectorsOfSort : GoodIn wsX4_runOfAvalanche (wsV RX4 252 RX2 yX2_sectorsOfSort wsX2_sectorsOfSort) := goodIn_app (goodIn_of _ (by decide +kernel)) ggX4_runOfAvalanche_X2_sectorsOfSort
set_option maxRecDepth 20000 in
theorem ggX4_runOfAvalanche_J6_bitCount_0f7a4 : GoodIn wsX4_runOfAvalanche wsJ6_bitCount_0f7a4 := goodIn_r _ [20, 21, 22, 23] rfl (by decide +kernel)
set_option maxRecDepth 20000 in
theorem gX4_runOfAvalanche_J6_bitCount_0f7a4 : GoodIn wsX4_runOfAvalanche (va_wsS RX4 192 yJ6_bitCount_0f7a4 wsJ6_bitCount_0f7a4) := goodIn_app (goodIn_of _ (by decide +kernel)) ggX4_runOfAvalanche_J6_bitCount_0f7a4
set_option maxRecDepth 20000 in
theorem ggX4_runOfAvalanche_X2_ownersOf : GoodIn wsX4_runOfAvalanche wsX2_ownersOf := goodIn_r _ [27, 28, 29, 30, 10, 31, 32, 33, 34, 35, 36, 37, 44, 45, 46, 47, 48, 49] rfl (by decide +kernel)
set_option maxRecDepth 20000 in
theorem gX4_runOfAvalanche_X2_ownersOf : GoodIn wsX4_runOfAvalanche (wsV RX4 255 RX2 yX2_ownersOf wsX2_ownersOf) := goodIn_app (goodIn_of _ (by decide +kernel)) ggX4_runOfAvalanche_X2_ownersOf
set_option maxRecDepth 20000 in
theorem ggX4_yearsOfSpring_X2_ownerOf : GoodIn wsX4_yearsOfSpring wsX2_ownerOf := goodIn_r _ [6, 7, 8, 9, 10, 5, 11, 12, 19, 20, 21, 22, 23, 24] rfl (by decide +kernel)
set_option maxRecDepth 20000 in
theorem gX4_yearsOfSpring_X2_ownerOf : GoodIn wsX4_yearsOfSpring (wsV RX4 160 RX2 yX2_ownerOf wsX2_ownerOf) := goodIn_app (goodIn_of _ (by decide +kernel)) ggX4_yearsOfSpring_X2_ownerOf
set_option maxRecDepth 20000 in
theorem ggX4_firstYearOfSpring_X2_ownerOf : GoodIn wsX4_firstYearOfSpring wsX2_ownerOf := goodIn_r _ [6, 7, 8, 9, 10, 5, 11, 12, 19, 20, 21, 22, 23, 24] rfl (by decide +kernel)
set_option maxRecDepth 20000 in
theorem gX4_firstYearOfSpring_X2_ownerOf : GoodIn wsX4_firstYearOfSpring (wsV RX4 160 RX2 yX2_ownerOf wsX2_ownerOf) := goodIn_app (goodIn_of _ (by decide +kernel)) ggX4_firstYearOfSpring_X2_ownerOf
set_option maxRecDepth 20000 in
theorem ggX4_boundsAsOne_X2_ownerOf : GoodIn wsX4_boundsAsOne wsX2_ownerOf := goodIn_r _ [6, 7, 8, 9, 10, 5, 11, 12, 23, 24, 25, 26, 27, 28] rfl (by decide +kernel)
set_option maxRecDepth 20000 in
theorem gX4_boundsAsOne_X2_ownerOf : GoodIn wsX4_boundsAsOne (wsV RX4 160 RX2 yX2_ownerOf wsX2_ownerOf) := goodIn_app (goodIn_of _ (by decide +kernel)) ggX4_boundsAsOne_X2_ownerOf
set_option maxRecDepth 20000 in
theorem ggX4_boundsAsOne_X4_asOne : GoodIn wsX4_boundsAsOne wsX4_asOne := goodIn_r _ [16] rfl (by decide +kernel)
set_option maxRecDepth 20000 in
theorem gX4_boundsAsOne_X4_asOne : GoodIn wsX4_boundsAsOne (va_wsS RX4 258 yX4_asOne wsX4_asOne) := goodIn_app (goodIn_of _ (by decide +kernel)) ggX4_boundsAsOne_X4_asOne
set_option maxRecDepth 20000 in
theorem ggX4_bestWedding_X2_sectorsOf : GoodIn wsX4_bestWedding wsX2_sectorsOf := goodIn_r _ [6, 7, 8, 9, 5, 10, 11, 12, 13, 14, 15, 16, 32, 33, 34, 35, 36, 37] rfl (by decide +kernel)
set_option maxRecDepth 20000 in
theorem gX4_bestWedding_X2_sectorsOf : GoodIn wsX4_bestWedding (wsV RX4 122 RX2 yX2_sectorsOf wsX2_sectorsOf) := goodIn_app (goodIn_of _ (by decide +kernel)) ggX4_bestWedding_X2_sectorsOf
set_option maxRecDepth 20000 in
theorem ggX4_bestWedding_X4_boundsAsOne : GoodIn wsX4_bestWedding wsX4_boundsAsOne := goodIn_r _ [21, 1, 22, 8, 9, 5, 10, 11, 12, 13, 14, 15, 16, 23, 24, 20, 25, 26, 27, 28, 29, 30, 31, 32, 33, 34, 35, 36, 37] rfl (by decide +kernel)
set_option maxRecDepth 20000 in
theorem gX4_bestWedding_X4_boundsAsOne : GoodIn wsX4_bestWedding (wsV RX4 173 RX4 yX4_boundsAsOne wsX4_boundsAsOne) := goodIn_app (goodIn_of _ (by decide +kernel)) ggX4_bestWedding_X4_boundsAsOne
set_option maxRecDepth 20000 in
theorem ggX4_narrowestPiece_X2_ownerOf : GoodIn wsX4_narrowestPiece wsX2_ownerOf := goodIn_r _ [10, 11, 12, 13, 14, 9, 15, 16, 28, 29, 30, 31, 32, 33] rfl (by decide +kernel)
set_option maxRecDepth 20000 in
theorem gX4_narrowestPiece_X2_ownerOf : GoodIn wsX4_narrowestPiece (wsV RX4 160 RX2 yX2_ownerOf wsX2_ownerOf) := goodIn_app (goodIn_of _ (by decide +kernel)) ggX4_narrowestPiece_X2_ownerOf
set_option maxRecDepth 20000 in
theorem ggX4_narrowestPiece_X4_pieceBehind : GoodIn wsX4_narrowestPiece wsX4_pieceBehind := goodIn_r _ [21, 1, 6, 7, 8, 9, 10, 11, 12, 13, 14, 15, 16, 22, 23, 24, 25, 26, 27, 28, 29, 30, 31, 32, 33] rfl (by decide +kernel)
set_option maxRecDepth 20000 in
theorem gX4_narrowestPiece_X4_pieceBehind : GoodIn wsX4_narrowestPiece (wsV RX4 261 RX4 yX4_pieceBehind wsX4_pieceBehind) := goodIn_app (goodIn_of _ (by decide +kernel)) ggX4_narrowestPiece_X4_pieceBehind
set_option maxRecDepth 20000 in
theorem ggX4_pieceBehind_X2_ownerOf : GoodIn wsX4_pieceBehind wsX2_ownerOf := goodIn_r _ [6, 7, 8, 9, 10, 5, 11, 12, 19, 20, 21, 22, 23, 24] rfl (by decide +kernel)
set_option maxRecDepth 20000 in
theorem gX4_pieceBehind_X2_ownerOf : GoodIn wsX4_pieceBehind (wsV RX4 160 RX2 yX2_ownerOf wsX2_ownerOf) := goodIn_app (goodIn_of _ (by decide +kernel)) ggX4_pieceBehind_X2_ownerOf
