set_option maxRecDepth 20000 in
theorem ggX5_isHeir_X5_in : GoodIn wsX5_isHeir wsX5_in := goodIn_r _ [4] rfl (by decide +kernel)
set_option maxRecDepth 20000 in
theorem gX5_isHeir_X5_in : GoodIn wsX5_isHeir (va_wsS RX5 66 yX5_in wsX5_in) := goodIn_app (goodIn_of _ (by decide +kernel)) ggX5_isHeir_X5_in
set_option maxRecDepth 20000 in
theorem ggX5_isSector_X5_in : GoodIn wsX5_isSector wsX5_in := goodIn_r _ [4] rfl (by decide +kernel)
set_option maxRecDepth 20000 in
theorem gX5_isSector_X5_in : GoodIn wsX5_isSector (va_wsS RX5 66 yX5_in wsX5_in) := goodIn_app (goodIn_of _ (by decide +kernel)) ggX5_isSector_X5_in
set_option maxRecDepth 20000 in
theorem ggX5_isRing_X5_in : GoodIn wsX5_isRing wsX5_in := goodIn_r _ [4] rfl (by decide +kernel)
set_option maxRecDepth 20000 in
theorem gX5_isRing_X5_in : GoodIn wsX5_isRing (va_wsS RX5 66 yX5_in wsX5_in) := goodIn_app (goodIn_of _ (by decide +kernel)) ggX5_isRing_X5_in
set_option maxRecDepth 20000 in
theorem ggX5_say_X5_in : GoodIn wsX5_say wsX5_in := goodIn_r _ [6] rfl (by decide +kernel)
set_option maxRecDepth 20000 in
theorem gX5_say_X5_in : GoodIn wsX5_say (va_wsS RX5 66 yX5_in wsX5_in) := goodIn_app (goodIn_of _ (by decide +kernel)) ggX5_say_X5_in
set_option maxRecDepth 20000 in
theorem ggX5_isLetter_X5_sortOf : GoodIn wsX5_isLetter wsX5_sortOf := goodIn_r _ [4] rfl (by decide +kernel)
set_option maxRecDepth 20000 in
theorem gX5_isLetter_X5_sortOf : GoodIn wsX5_isLetter (va_wsS RX5 73 yX5_sortOf wsX5_sortOf) := goodIn_app (goodIn_of _ (by decide +kernel)) ggX5_isLetter_X5_sortOf
set_option maxRecDepth 20000 in
theorem ggX5_isLetter_X5_in : GoodIn wsX5_isLetter wsX5_in := goodIn_r _ [7] rfl (by decide +kernel)
set_option maxRecDepth 20000 in
theorem gX5_isLetter_X5_in : GoodIn wsX5_isLetter (va_wsS RX5 66 yX5_in wsX5_in) := goodIn_app (goodIn_of _ (by decide +kernel)) ggX5_isLetter_X5_in
set_option maxRecDepth 20000 in
theorem ggX5_faultOf_X5_in : GoodIn wsX5_faultOf wsX5_in := goodIn_r _ [6] rfl (by decide +kernel)
set_option maxRecDepth 20000 in
theorem gX5_faultOf_X5_in : GoodIn wsX5_faultOf (va_wsS RX5 66 yX5_in wsX5_in) := goodIn_app (goodIn_of _ (by decide +kernel)) ggX5_faultOf_X5_in
set_option maxRecDepth 20000 in
theorem ggX5_faultOf_X5_sectorsOf : GoodIn wsX5_faultOf wsX5_sectorsOf := goodIn_r _ [10, 11, 18, 19, 20, 21, 22, 23, 24, 25, 26, 27, 28, 29, 30, 31, 32, 33, 34, 35, 36, 37, 38, 39] rfl (by decide +kernel)
set_option maxRecDepth 20000 in
theorem gX5_faultOf_X5_sectorsOf : GoodIn wsX5_faultOf (wsV RX5 77 RX5 yX5_sectorsOf wsX5_sectorsOf) := goodIn_app (goodIn_of _ (by decide +kernel)) ggX5_faultOf_X5_sectorsOf
set_option maxRecDepth 20000 in
theorem ggX5_faultOf_X5_isLetter : GoodIn wsX5_faultOf wsX5_isLetter := goodIn_r _ [14, 15, 16, 5, 17, 3, 4, 6] rfl (by decide +kernel)
set_option maxRecDepth 20000 in
theorem gX5_faultOf_X5_isLetter : GoodIn wsX5_faultOf (va_wsS RX5 80 yX5_isLetter wsX5_isLetter) := goodIn_app (goodIn_of _ (by decide +kernel)) ggX5_faultOf_X5_isLetter
set_option maxRecDepth 20000 in
theorem ggX5_fault_X5_in : GoodIn wsX5_fault wsX5_in := goodIn_r _ [4] rfl (by decide +kernel)
set_option maxRecDepth 20000 in
theorem gX5_fault_X5_in : GoodIn wsX5_fault (va_wsS RX5 66 yX5_in wsX5_in) := goodIn_app (goodIn_of _ (by decide +kernel)) ggX5_fault_X5_in
set_option maxRecDepth 20000 in
theorem ggX5_fault_X5_faultOf : GoodIn wsX5_fault wsX5_faultOf := goodIn_r _ [8, 9, 10, 1, 2, 3, 4, 11, 12, 13, 14, 15, 16, 17, 18, 19, 20, 21, 22, 23, 24, 25, 26, 27, 28, 29, 30, 31, 32, 33, 34, 35, 36, 37, 38, 39, 40, 41, 42, 43] rfl (by decide +kernel)
set_option maxRecDepth 20000 in
theorem gX5_fault_X5_faultOf : GoodIn wsX5_fault (wsV RX5 84 RX5 yX5_faultOf wsX5_faultOf) := goodIn_app (goodIn_of _ (by decide +kernel)) ggX5_fault_X5_faultOf
set_option maxRecDepth 20000 in
theorem ggX5_ring_X5_isRing : GoodIn wsX5_ring wsX5_isRing := goodIn_r _ [7, 8, 9, 6, 10] rfl (by decide +kernel)
set_option maxRecDepth 20000 in
theorem gX5_ring_X5_isRing : GoodIn wsX5_ring (va_wsS RX5 87 yX5_isRing wsX5_isRing) := goodIn_app (goodIn_of _ (by decide +kernel)) ggX5_ring_X5_isRing
set_option maxRecDepth 20000 in
theorem ggX5_ring_X5_faultOf : GoodIn wsX5_ring wsX5_faultOf := goodIn_r _ [14, 1, 2, 8, 9, 6, 10, 15, 16, 17, 18, 19, 20, 21, 22, 23, 24, 25, 26, 27, 28, 29, 30, 31, 32, 33, 34, 35, 36, 37, 38, 39, 40, 41, 42, 43, 44, 45, 46, 47] rfl (by decide +kernel)
set_option maxRecDepth 20000 in
theorem gX5_ring_X5_faultOf : GoodIn wsX5_ring (wsV RX5 84 RX5 yX5_faultOf wsX5_faultOf) := goodIn_app (goodIn_of _ (by decide +kernel)) ggX5_ring_X5_faultOf
set_option maxRecDepth 20000 in
theorem ggX5_slices_X5_faultOf : GoodIn wsX5_slices wsX5_faultOf := goodIn_r _ [9, 1, 2, 10, 11, 8, 12, 13, 14, 15, 16, 3, 17, 18, 19, 20, 21, 22, 28, 29, 30, 31, 32, 33, 34, 35, 36, 37, 38, 39, 40, 41, 42, 43, 44, 45, 46, 47, 48, 49] rfl (by decide +kernel)
set_option maxRecDepth 20000 in
theorem gX5_slices_X5_faultOf : GoodIn wsX5_slices (wsV RX5 84 RX5 yX5_faultOf wsX5_faultOf) := goodIn_app (goodIn_of _ (by decide +kernel)) ggX5_slices_X5_faultOf
set_option maxRecDepth 20000 in
theorem ggX5_slices_X5_keepGeneration : GoodIn wsX5_slices wsX5_keepGeneration := goodIn_r _ [26, 27, 4, 3, 28, 29, 30, 31, 32, 33, 34, 35, 36, 37, 38, 39, 40, 41, 42, 43, 44, 45, 46, 47, 48, 49] rfl (by decide +kernel)
set_option maxRecDepth 20000 in
theorem gX5_slices_X5_keepGeneration : GoodIn wsX5_slices (wsV RX5 94 RX5 yX5_keepGeneration wsX5_keepGeneration) := goodIn_app (goodIn_of _ (by decide +kernel)) ggX5_slices_X5_keepGeneration
set_option maxRecDepth 20000 in
theorem ggX5_will_X5_faultOf : GoodIn wsX5_will wsX5_faultOf := goodIn_r _ [10, 5, 2, 11, 12, 9, 13, 14, 15, 16, 17, 4, 18, 19, 20, 21, 22, 23, 28, 29, 30, 31, 32, 33, 34, 35, 36, 37, 38, 39, 40, 41, 42, 43, 44, 45, 46, 47, 48, 49] rfl (by decide +kernel)
set_option maxRecDepth 20000 in
theorem gX5_will_X5_faultOf : GoodIn wsX5_will (wsV RX5 84 RX5 yX5_faultOf wsX5_faultOf) := goodIn_app (goodIn_of _ (by decide +kernel)) ggX5_will_X5_faultOf
set_option maxRecDepth 20000 in
theorem ggX5_will_X5_keepGeneration : GoodIn wsX5_will wsX5_keepGeneration := goodIn_r _ [27, 3, 1, 4, 28, 29, 30, 31, 32, 33, 34, 35, 36, 37, 38, 39, 40, 41, 42, 43, 44, 45, 46, 47, 48, 49] rfl (by decide +kernel)
set_option maxRecDepth 20000 in
theorem gX5_will_X5_keepGeneration : GoodIn wsX5_will (wsV RX5 94 RX5 yX5_keepGeneration wsX5_keepGeneration) := goodIn_app (goodIn_of _ (by decide +kernel)) ggX5_will_X5_keepGeneration
set_option maxRecDepth 20000 in
theorem ggX5_wedding_X5_isHeir : GoodIn wsX5_wedding wsX5_isHeir := goodIn_r _ [6, 7, 8, 5, 9] rfl (by decide +kernel)
set_option maxRecDepth 20000 in
theorem gX5_wedding_X5_isHeir : GoodIn wsX5_wedding (va_wsS RX5 97 yX5_isHeir wsX5_isHeir) := goodIn_app (goodIn_of _ (by decide +kernel)) ggX5_wedding_X5_isHeir
set_option maxRecDepth 20000 in
theorem ggX5_wedding_X5_keepGeneration : GoodIn wsX5_wedding wsX5_keepGeneration := goodIn_r _ [13, 14, 1, 2, 15, 16, 17, 18, 19, 20, 21, 22, 23, 24, 25, 26, 27, 28, 29, 30, 31, 32, 33, 34, 35, 36] rfl (by decide +kernel)
set_option maxRecDepth 20000 in
theorem gX5_wedding_X5_keepGeneration : GoodIn wsX5_wedding (wsV RX5 94 RX5 yX5_keepGeneration wsX5_keepGeneration) := goodIn_app (goodIn_of _ (by decide +kernel)) ggX5_wedding_X5_keepGeneration
set_option maxRecDepth 20000 in
theorem ggX5_cell_X5_isRing : GoodIn wsX5_cell wsX5_isRing := goodIn_r _ [5, 6, 7, 4, 8] rfl (by decide +kernel)
set_option maxRecDepth 20000 in
theorem gX5_cell_X5_isRing : GoodIn wsX5_cell (va_wsS RX5 87 yX5_isRing wsX5_isRing) := goodIn_app (goodIn_of _ (by decide +kernel)) ggX5_cell_X5_isRing
set_option maxRecDepth 20000 in
theorem ggX5_cell_X5_isSector : GoodIn wsX5_cell wsX5_isSector := goodIn_r _ [11, 6, 7, 4, 8] rfl (by decide +kernel)
set_option maxRecDepth 20000 in
theorem gX5_cell_X5_isSector : GoodIn wsX5_cell (va_wsS RX5 100 yX5_isSector wsX5_isSector) := goodIn_app (goodIn_of _ (by decide +kernel)) ggX5_cell_X5_isSector
set_option maxRecDepth 20000 in
theorem ggX5_was_X5_isSector : GoodIn wsX5_was wsX5_isSector := goodIn_r _ [6, 7, 8, 5, 9] rfl (by decide +kernel)
set_option maxRecDepth 20000 in
theorem gX5_was_X5_isSector : GoodIn wsX5_was (va_wsS RX5 100 yX5_isSector wsX5_isSector) := goodIn_app (goodIn_of _ (by decide +kernel)) ggX5_was_X5_isSector
set_option maxRecDepth 20000 in
theorem ggX5_was_X5_in : GoodIn wsX5_was wsX5_in := goodIn_r _ [9] rfl (by decide +kernel)
set_option maxRecDepth 20000 in
theorem gX5_was_X5_in : GoodIn wsX5_was (va_wsS RX5 66 yX5_in wsX5_in) := goodIn_app (goodIn_of _ (by decide +kernel)) ggX5_was_X5_in
set_option maxRecDepth 20000 in
theorem ggX5_has_X5_isHeir : GoodIn wsX5_has wsX5_isHeir := goodIn_r _ [4, 5, 6, 3, 7] rfl (by decide +kernel)
set_option maxRecDepth 20000 in
theorem gX5_has_X5_isHeir : GoodIn wsX5_has (va_wsS RX5 97 yX5_isHeir wsX5_isHeir) := goodIn_app (goodIn_of _ (by decide +kernel)) ggX5_has_X5_isHeir
set_option maxRecDepth 20000 in
theorem ggX5_has_X5_sectors : GoodIn wsX5_has wsX5_sectors := goodIn_r _ [11, 12, 13, 14, 15, 16, 17, 18, 19, 20, 21, 22, 23, 24, 25, 26, 27, 28, 29, 30, 31, 32, 33, 34] rfl (by decide +kernel)
set_option maxRecDepth 20000 in
theorem gX5_has_X5_sectors : GoodIn wsX5_has (wsV RX5 103 RX5 yX5_sectors wsX5_sectors) := goodIn_app (goodIn_of _ (by decide +kernel)) ggX5_has_X5_sectors
set_option maxRecDepth 20000 in
theorem ggX5_worth_X5_isHeir : GoodIn wsX5_worth wsX5_isHeir := goodIn_r _ [5, 6, 7, 4, 8] rfl (by decide +kernel)
set_option maxRecDepth 20000 in
theorem gX5_worth_X5_isHeir : GoodIn wsX5_worth (va_wsS RX5 97 yX5_isHeir wsX5_isHeir) := goodIn_app (goodIn_of _ (by decide +kernel)) ggX5_worth_X5_isHeir
set_option maxRecDepth 20000 in
theorem ggX5_worth_X5_sortOf : GoodIn wsX5_worth wsX5_sortOf := goodIn_r _ [11] rfl (by decide +kernel)
set_option maxRecDepth 20000 in
theorem gX5_worth_X5_sortOf : GoodIn wsX5_worth (va_wsS RX5 73 yX5_sortOf wsX5_sortOf) := goodIn_app (goodIn_of _ (by decide +kernel)) ggX5_worth_X5_sortOf
set_option maxRecDepth 20000 in
theorem ggX5_worth_X5_in : GoodIn wsX5_worth wsX5_in := goodIn_r _ [8] rfl (by decide +kernel)
set_option maxRecDepth 20000 in
theorem gX5_worth_X5_in : GoodIn wsX5_worth (va_wsS RX5 66 yX5_in wsX5_in) := goodIn_app (goodIn_of _ (by decide +kernel)) ggX5_worth_X5_in
set_option maxRecDepth 20000 in
theorem ggX5_sectorWorth_X5_sortOf : GoodIn wsX5_sectorWorth wsX5_sortOf := goodIn_r _ [6] rfl (by decide +kernel)
set_option maxRecDepth 20000 in
theorem gX5_sectorWorth_X5_sortOf : GoodIn wsX5_sectorWorth (va_wsS RX5 73 yX5_sortOf wsX5_sortOf) := goodIn_app (goodIn_of _ (by decide +kernel)) ggX5_sectorWorth_X5_sortOf
set_option maxRecDepth 20000 in
theorem ggX5_shareOf_X5_hasBit : GoodIn wsX5_shareOf wsX5_hasBit := goodIn_r _ [4] rfl (by decide +kernel)
set_option maxRecDepth 20000 in
theorem gX5_shareOf_X5_hasBit : GoodIn wsX5_shareOf (va_wsS RX5 106 yX5_hasBit wsX5_hasBit) := goodIn_app (goodIn_of _ (by decide +kernel)) ggX5_shareOf_X5_hasBit
set_option maxRecDepth 20000 in
theorem ggX5_shareOf_X5_sectorWorth : GoodIn wsX5_shareOf wsX5_sectorWorth := goodIn_r _ [8, 9, 10, 11, 12, 3, 13, 14, 15, 16, 17, 18, 19, 20, 21, 22, 23, 24, 25, 26, 27, 28, 29, 30, 31, 32, 33, 34, 35] rfl (by decide +kernel)
set_option maxRecDepth 20000 in
theorem gX5_shareOf_X5_sectorWorth : GoodIn wsX5_shareOf (wsV RX5 109 RX5 yX5_sectorWorth wsX5_sectorWorth) := goodIn_app (goodIn_of _ (by decide +kernel)) ggX5_shareOf_X5_sectorWorth
set_option maxRecDepth 20000 in
theorem ggX5_share_X5_isHeir : GoodIn wsX5_share wsX5_isHeir := goodIn_r _ [5, 6, 7, 4, 8] rfl (by decide +kernel)
set_option maxRecDepth 20000 in
theorem gX5_share_X5_isHeir : GoodIn wsX5_share (va_wsS RX5 97 yX5_isHeir wsX5_isHeir) := goodIn_app (goodIn_of _ (by decide +kernel)) ggX5_share_X5_isHeir
set_option maxRecDepth 20000 in
theorem ggX5_share_X5_in : GoodIn wsX5_share wsX5_in := goodIn_r _ [8] rfl (by decide +kernel)
set_option maxRecDepth 20000 in
theorem gX5_share_X5_in : GoodIn wsX5_share (va_wsS RX5 66 yX5_in wsX5_in) := goodIn_app (goodIn_of _ (by decide +kernel)) ggX5_share_X5_in
set_option maxRecDepth 20000 in
theorem ggX5_share_X5_shareOf : GoodIn wsX5_share wsX5_shareOf := goodIn_r _ [12, 13, 14, 4, 15, 16, 17, 18, 19, 20, 21, 22, 23, 24, 25, 26, 27, 28, 29, 30, 31, 32, 33, 34, 35, 36, 37, 38, 39, 40, 41, 42, 43, 44, 45, 46] rfl (by decide +kernel)
set_option maxRecDepth 20000 in
theorem gX5_share_X5_shareOf : GoodIn wsX5_share (wsV RX5 114 RX5 yX5_shareOf wsX5_shareOf) := goodIn_app (goodIn_of _ (by decide +kernel)) ggX5_share_X5_shareOf
set_option maxRecDepth 20000 in
theorem ggX5_envies_X5_isHeir : GoodIn wsX5_envies wsX5_isHeir := goodIn_r _ [4, 5, 6, 3, 7] rfl (by decide +kernel)
set_option maxRecDepth 20000 in
theorem gX5_envies_X5_isHeir : GoodIn wsX5_envies (va_wsS RX5 97 yX5_isHeir wsX5_isHeir) := goodIn_app (goodIn_of _ (by decide +kernel)) ggX5_envies_X5_isHeir
set_option maxRecDepth 20000 in
theorem ggX5_envies_X5_sectors : GoodIn wsX5_envies wsX5_sectors := goodIn_r _ [11, 12, 29, 30, 31, 32, 33, 34, 35, 36, 37, 38, 39, 40, 41, 42, 43, 44, 45, 46, 47, 48, 49, 50] rfl (by decide +kernel)
set_option maxRecDepth 20000 in
theorem gX5_envies_X5_sectors : GoodIn wsX5_envies (wsV RX5 103 RX5 yX5_sectors wsX5_sectors) := goodIn_app (goodIn_of _ (by decide +kernel)) ggX5_envies_X5_sectors
set_option maxRecDepth 20000 in
theorem ggX5_envies_X5_shareOf : GoodIn wsX5_envies wsX5_shareOf := goodIn_r _ [16, 17, 18, 3, 19, 20, 21, 22, 23, 24, 25, 26, 27, 28, 29, 30, 31, 32, 33, 34, 35, 36, 37, 38, 39, 40, 41, 42, 43, 44, 45, 46, 47, 48, 49, 50] rfl (by decide +kernel)
set_option maxRecDepth 20000 in
theorem gX5_envies_X5_shareOf : GoodIn wsX5_envies (wsV RX5 114 RX5 yX5_shareOf wsX5_shareOf) := goodIn_app (goodIn_of _ (by decide +kernel)) ggX5_envies_X5_shareOf
set_option maxRecDepth 20000 in
theorem ggX5_layAhead_X5_sectorWorth : GoodIn wsX5_layAhead wsX5_sectorWorth := goodIn_r _ [6, 7, 8, 9, 10, 5, 11, 12, 13, 14, 15, 16, 17, 18, 19, 20, 21, 22, 23, 24, 25, 26, 27, 28, 29, 30, 31, 32, 33] rfl (by decide +kernel)
set_option maxRecDepth 20000 in
theorem gX5_layAhead_X5_sectorWorth : GoodIn wsX5_layAhead (wsV RX5 109 RX5 yX5_sectorWorth wsX5_sectorWorth) := goodIn_app (goodIn_of _ (by decide +kernel)) ggX5_layAhead_X5_sectorWorth
set_option maxRecDepth 20000 in
theorem ggX5_isFair_X5_arcWorth : GoodIn wsX5_isFair wsX5_arcWorth := goodIn_r _ [6, 7, 8, 9, 10, 11, 12, 13, 14, 15, 16, 17, 18, 19, 20, 21, 22, 23, 24, 25, 26, 27, 28, 29, 30] rfl (by decide +kernel)
set_option maxRecDepth 20000 in
theorem gX5_isFair_X5_arcWorth : GoodIn wsX5_isFair (wsV RX5 117 RX5 yX5_arcWorth wsX5_arcWorth) := goodIn_app (goodIn_of _ (by decide +kernel)) ggX5_isFair_X5_arcWorth
set_option maxRecDepth 20000 in
theorem ggX5_leastShare_X5_arcWorth : GoodIn wsX5_leastShare wsX5_arcWorth := goodIn_r _ [6, 7, 8, 9, 10, 11, 12, 13, 14, 15, 16, 17, 18, 19, 20, 21, 22, 23, 24, 25, 26, 27, 28, 29, 30] rfl (by decide +kernel)
set_option maxRecDepth 20000 in
theorem gX5_leastShare_X5_arcWorth : GoodIn wsX5_leastShare (wsV RX5 117 RX5 yX5_arcWorth wsX5_arcWorth) := goodIn_app (goodIn_of _ (by decide +kernel)) ggX5_leastShare_X5_arcWorth
set_option maxRecDepth 20000 in
theorem ggX5_layCut_X5_layAhead : GoodIn wsX5_layCut wsX5_layAhead := goodIn_r _ [7, 8, 9, 10, 11, 6, 12, 13, 14, 15, 16, 17, 45, 46, 47, 48, 49, 50, 51, 52, 53, 54, 55, 56, 57, 58, 59, 60, 61, 62, 63, 64, 65, 66] rfl (by decide +kernel)
set_option maxRecDepth 20000 in
theorem gX5_layCut_X5_layAhead : GoodIn wsX5_layCut (wsV RX5 121 RX5 yX5_layAhead wsX5_layAhead) := goodIn_app (goodIn_of _ (by decide +kernel)) ggX5_layCut_X5_layAhead
set_option maxRecDepth 20000 in
theorem ggX5_layCut_X5_layOwners : GoodIn wsX5_layCut wsX5_layOwners := goodIn_r _ [21, 22, 45, 46, 47, 48, 49, 50, 51, 52, 53, 54, 55, 56, 57, 58, 59, 60, 61, 62, 63, 64, 65, 66] rfl (by decide +kernel)
set_option maxRecDepth 20000 in
theorem gX5_layCut_X5_layOwners : GoodIn wsX5_layCut (wsV RX5 124 RX5 yX5_layOwners wsX5_layOwners) := goodIn_app (goodIn_of _ (by decide +kernel)) ggX5_layCut_X5_layOwners
set_option maxRecDepth 20000 in
theorem ggX5_layCut_X5_leastShare : GoodIn wsX5_layCut wsX5_leastShare := goodIn_r _ [26, 22, 27, 28, 29, 6, 30, 1, 8, 45, 46, 47, 48, 49, 50, 51, 52, 53, 54, 55, 56, 57, 58, 59, 60, 61, 62, 63, 64, 65, 66] rfl (by decide +kernel)
set_option maxRecDepth 20000 in
theorem gX5_layCut_X5_leastShare : GoodIn wsX5_layCut (wsV RX5 127 RX5 yX5_leastShare wsX5_leastShare) := goodIn_app (goodIn_of _ (by decide +kernel)) ggX5_layCut_X5_leastShare
set_option maxRecDepth 20000 in
theorem ggX5_layCut_X5_isFair : GoodIn wsX5_layCut wsX5_isFair := goodIn_r _ [34, 22, 27, 28, 29, 6, 30, 1, 8, 45, 46, 47, 48, 49, 50, 51, 52, 53, 54, 55, 56, 57, 58, 59, 60, 61, 62, 63, 64, 65, 66] rfl (by decide +kernel)
set_option maxRecDepth 20000 in
theorem gX5_layCut_X5_isFair : GoodIn wsX5_layCut (wsV RX5 130 RX5 yX5_isFair wsX5_isFair) := goodIn_app (goodIn_of _ (by decide +kernel)) ggX5_layCut_X5_isFair
set_option maxRecDepth 20000 in
theorem ggX5_layCut_X5_keepCut : GoodIn wsX5_layCut wsX5_keepCut := goodIn_r _ [38, 39, 1, 40, 22, 45, 46, 47, 48, 49, 50, 51, 52, 53, 54, 55, 56, 57, 58, 59, 60, 61, 62, 63, 64, 65, 66] rfl (by decide +kernel)
set_option maxRecDepth 20000 in
theorem gX5_layCut_X5_keepCut : GoodIn wsX5_layCut (wsV RX5 136 RX5 yX5_keepCut wsX5_keepCut) := goodIn_app (goodIn_of _ (by decide +kernel)) ggX5_layCut_X5_keepCut
set_option maxRecDepth 20000 in
theorem ggX5_layCut_X5_nextBounds : GoodIn wsX5_layCut wsX5_nextBounds := goodIn_r _ [44, 1, 45, 46, 47, 48, 49, 50, 51, 52, 53, 54, 55, 56, 57, 58, 59, 60, 61, 62, 63, 64, 65, 66] rfl (by decide +kernel)
set_option maxRecDepth 20000 in
theorem gX5_layCut_X5_nextBounds : GoodIn wsX5_layCut (wsV RX5 140 RX5 yX5_nextBounds wsX5_nextBounds) := goodIn_app (goodIn_of _ (by decide +kernel)) ggX5_layCut_X5_nextBounds
set_option maxRecDepth 20000 in
theorem ggX5_toldCut_X5_in : GoodIn wsX5_toldCut wsX5_in := goodIn_r _ [6] rfl (by decide +kernel)
set_option maxRecDepth 20000 in
theorem gX5_toldCut_X5_in : GoodIn wsX5_toldCut (va_wsS RX5 66 yX5_in wsX5_in) := goodIn_app (goodIn_of _ (by decide +kernel)) ggX5_toldCut_X5_in
set_option maxRecDepth 20000 in
theorem ggX5_fair_X5_in : GoodIn wsX5_fair wsX5_in := goodIn_r _ [4] rfl (by decide +kernel)
set_option maxRecDepth 20000 in
theorem gX5_fair_X5_in : GoodIn wsX5_fair (va_wsS RX5 66 yX5_in wsX5_in) := goodIn_app (goodIn_of _ (by decide +kernel)) ggX5_fair_X5_in
set_option maxRecDepth 20000 in
theorem ggX5_fair_X5_layCut : GoodIn wsX5_fair wsX5_layCut := goodIn_r _ [8, 9, 10, 11, 12, 13, 3, 14, 15, 16, 17, 18, 19, 20, 21, 22, 23, 24, 25, 26, 27, 28, 29, 30, 31, 32, 33, 34, 35, 36, 37, 38, 39, 40, 41, 42, 43, 44, 45, 46, 47, 48, 49, 50, 51, 56, 57, 58, 59, 60, 61, 62, 63, 64, 65, 66, 67, 68, 69, 70, 71, 72, 73, 74, 75, 76, 77] rfl (by decide +kernel)
set_option maxRecDepth 20000 in
theorem gX5_fair_X5_layCut : GoodIn wsX5_fair (wsV RX5 143 RX5 yX5_layCut wsX5_layCut) := goodIn_app (goodIn_of _ (by decide +kernel)) ggX5_fair_X5_layCut
set_option maxRecDepth 20000 in
theorem ggX5_fair_X5_toldCut : GoodIn wsX5_fair wsX5_toldCut := goodIn_r _ [55, 46, 47, 1, 2, 3, 4, 56, 57, 58, 59, 60, 61, 62, 63, 64, 65, 66, 67, 68, 69, 70, 71, 72, 73, 74, 75, 76, 77] rfl (by decide +kernel)
set_option maxRecDepth 20000 in
theorem gX5_fair_X5_toldCut : GoodIn wsX5_fair (wsV RX5 147 RX5 yX5_toldCut wsX5_toldCut) := goodIn_app (goodIn_of _ (by decide +kernel)) ggX5_fair_X5_toldCut
set_option maxRecDepth 20000 in
theorem ggX5_best_X5_in : GoodIn wsX5_best wsX5_in := goodIn_r _ [5] rfl (by decide +kernel)
set_option maxRecDepth 20000 in
theorem gX5_best_X5_in : GoodIn wsX5_best (va_wsS RX5 66 yX5_in wsX5_in) := goodIn_app (goodIn_of _ (by decide +kernel)) ggX5_best_X5_in
set_option maxRecDepth 20000 in
theorem ggX5_best_X5_layCut : GoodIn wsX5_best wsX5_layCut := goodIn_r _ [9, 10, 1, 11, 12, 13, 4, 14, 15, 16, 17, 18, 19, 20, 21, 22, 23, 24, 25, 26, 27, 28, 29, 30, 31, 32, 33, 34, 35, 36, 37, 38, 39, 40, 41, 42, 43, 44, 45, 46, 47, 48, 49, 50, 51, 56, 57, 58, 59, 60, 61, 62, 63, 64, 65, 66, 67, 68, 69, 70, 71, 72, 73, 74, 75, 76, 77] rfl (by decide +kernel)
set_option maxRecDepth 20000 in
theorem gX5_best_X5_layCut : GoodIn wsX5_best (wsV RX5 143 RX5 yX5_layCut wsX5_layCut) := goodIn_app (goodIn_of _ (by decide +kernel)) ggX5_best_X5_layCut
set_option maxRecDepth 20000 in
theorem ggX5_best_X5_toldCut : GoodIn wsX5_best wsX5_toldCut := goodIn_r _ [55, 46, 47, 2, 3, 4, 5, 56, 57, 58, 59, 60, 61, 62, 63, 64, 65, 66, 67, 68, 69, 70, 71, 72, 73, 74, 75, 76, 77] rfl (by decide +kernel)
set_option maxRecDepth 20000 in
theorem gX5_best_X5_toldCut : GoodIn wsX5_best (wsV RX5 147 RX5 yX5_toldCut wsX5_toldCut) := goodIn_app (goodIn_of _ (by decide +kernel)) ggX5_best_X5_toldCut
set_option maxRecDepth 20000 in
theorem ggX5_toll_X5_in : GoodIn wsX5_toll wsX5_in := goodIn_r _ [5] rfl (by decide +kernel)
set_option maxRecDepth 20000 in
theorem gX5_toll_X5_in : GoodIn wsX5_toll (va_wsS RX5 66 yX5_in wsX5_in) := goodIn_app (goodIn_of _ (by decide +kernel)) ggX5_toll_X5_in
set_option maxRecDepth 20000 in
theorem ggX5_right_X5_isHeir : GoodIn wsX5_right wsX5_isHeir := goodIn_r _ [5, 6, 7, 4, 8] rfl (by decide +kernel)
set_option maxRecDepth 20000 in
theorem gX5_right_X5_isHeir : GoodIn wsX5_right (va_wsS RX5 97 yX5_isHeir wsX5_isHeir) := goodIn_app (goodIn_of _ (by decide +kernel)) ggX5_right_X5_isHeir
set_option maxRecDepth 20000 in
theorem ggX5_wayCost_X5_next : GoodIn wsX5_wayCost wsX5_next := goodIn_r _ [7] rfl (by decide +kernel)
set_option maxRecDepth 20000 in
theorem gX5_wayCost_X5_next : GoodIn wsX5_wayCost (va_wsS RX5 151 yX5_next wsX5_next) := goodIn_app (goodIn_of _ (by decide +kernel)) ggX5_wayCost_X5_next
set_option maxRecDepth 20000 in
theorem ggX5_wayCost_X5_before : GoodIn wsX5_wayCost wsX5_before := goodIn_r _ [10] rfl (by decide +kernel)
set_option maxRecDepth 20000 in
theorem gX5_wayCost_X5_before : GoodIn wsX5_wayCost (va_wsS RX5 154 yX5_before wsX5_before) := goodIn_app (goodIn_of _ (by decide +kernel)) ggX5_wayCost_X5_before
set_option maxRecDepth 20000 in
theorem ggX5_wayCost_X5_hasBit : GoodIn wsX5_wayCost wsX5_hasBit := goodIn_r _ [13] rfl (by decide +kernel)
set_option maxRecDepth 20000 in
theorem gX5_wayCost_X5_hasBit : GoodIn wsX5_wayCost (va_wsS RX5 106 yX5_hasBit wsX5_hasBit) := goodIn_app (goodIn_of _ (by decide +kernel)) ggX5_wayCost_X5_hasBit
set_option maxRecDepth 20000 in
theorem ggX5_way_X5_isHeir : GoodIn wsX5_way wsX5_isHeir := goodIn_r _ [4, 5, 6, 3, 7] rfl (by decide +kernel)
set_option maxRecDepth 20000 in
theorem gX5_way_X5_isHeir : GoodIn wsX5_way (va_wsS RX5 97 yX5_isHeir wsX5_isHeir) := goodIn_app (goodIn_of _ (by decide +kernel)) ggX5_way_X5_isHeir
set_option maxRecDepth 20000 in
theorem ggX5_way_X5_isSector : GoodIn wsX5_way wsX5_isSector := goodIn_r _ [10, 5, 6, 3, 7] rfl (by decide +kernel)
set_option maxRecDepth 20000 in
theorem gX5_way_X5_isSector : GoodIn wsX5_way (va_wsS RX5 100 yX5_isSector wsX5_isSector) := goodIn_app (goodIn_of _ (by decide +kernel)) ggX5_way_X5_isSector
set_option maxRecDepth 20000 in
theorem ggX5_way_X5_in : GoodIn wsX5_way wsX5_in := goodIn_r _ [7] rfl (by decide +kernel)
set_option maxRecDepth 20000 in
theorem gX5_way_X5_in : GoodIn wsX5_way (va_wsS RX5 66 yX5_in wsX5_in) := goodIn_app (goodIn_of _ (by decide +kernel)) ggX5_way_X5_in
set_option maxRecDepth 20000 in
theorem ggX5_way_X5_wayCost : GoodIn wsX5_way wsX5_wayCost := goodIn_r _ [14, 15, 16, 17, 18, 19, 3, 20, 21, 22, 23, 24, 25, 26, 27, 28, 29, 30, 31, 32, 33, 34, 35, 36, 37, 38, 39, 40, 41, 42, 43, 44, 45, 46, 47, 48] rfl (by decide +kernel)
set_option maxRecDepth 20000 in
theorem gX5_way_X5_wayCost : GoodIn wsX5_way (wsV RX5 157 RX5 yX5_wayCost wsX5_wayCost) := goodIn_app (goodIn_of _ (by decide +kernel)) ggX5_way_X5_wayCost
set_option maxRecDepth 20000 in
theorem ggX5_hitBy_X5_next : GoodIn wsX5_hitBy wsX5_next := goodIn_r _ [7] rfl (by decide +kernel)
set_option maxRecDepth 20000 in
theorem gX5_hitBy_X5_next : GoodIn wsX5_hitBy (va_wsS RX5 151 yX5_next wsX5_next) := goodIn_app (goodIn_of _ (by decide +kernel)) ggX5_hitBy_X5_next
set_option maxRecDepth 20000 in
theorem ggX5_stone_X5_isRing : GoodIn wsX5_stone wsX5_isRing := goodIn_r _ [5, 6, 7, 4, 8] rfl (by decide +kernel)
set_option maxRecDepth 20000 in
theorem gX5_stone_X5_isRing : GoodIn wsX5_stone (va_wsS RX5 87 yX5_isRing wsX5_isRing) := goodIn_app (goodIn_of _ (by decide +kernel)) ggX5_stone_X5_isRing
set_option maxRecDepth 20000 in
theorem ggX5_stone_X5_isSector : GoodIn wsX5_stone wsX5_isSector := goodIn_r _ [11, 6, 7, 4, 8] rfl (by decide +kernel)
set_option maxRecDepth 20000 in
theorem gX5_stone_X5_isSector : GoodIn wsX5_stone (va_wsS RX5 100 yX5_isSector wsX5_isSector) := goodIn_app (goodIn_of _ (by decide +kernel)) ggX5_stone_X5_isSector
set_option maxRecDepth 20000 in
theorem ggX5_stone_X5_in : GoodIn wsX5_stone wsX5_in := goodIn_r _ [8] rfl (by decide +kernel)
set_option maxRecDepth 20000 in
theorem gX5_stone_X5_in : GoodIn wsX5_stone (va_wsS RX5 66 yX5_in wsX5_in) := goodIn_app (goodIn_of _ (by decide +kernel)) ggX5_stone_X5_in
set_option maxRecDepth 20000 in
theorem ggX5_stone_X5_hitBy : GoodIn wsX5_stone wsX5_hitBy := goodIn_r _ [15, 1, 16, 17, 18, 19, 4, 20, 21, 22, 23, 24, 25, 26, 27, 28, 29, 30, 31, 32, 33, 34, 35, 36, 37, 38, 39, 40, 41, 42] rfl (by decide +kernel)
set_option maxRecDepth 20000 in
theorem gX5_stone_X5_hitBy : GoodIn wsX5_stone (wsV RX5 164 RX5 yX5_hitBy wsX5_hitBy) := goodIn_app (goodIn_of _ (by decide +kernel)) ggX5_stone_X5_hitBy
set_option maxRecDepth 20000 in
theorem ggX5_avalanche_X5_isRing : GoodIn wsX5_avalanche wsX5_isRing := goodIn_r _ [6, 7, 8, 5, 9] rfl (by decide +kernel)
set_option maxRecDepth 20000 in
theorem gX5_avalanche_X5_isRing : GoodIn wsX5_avalanche (va_wsS RX5 87 yX5_isRing wsX5_isRing) := goodIn_app (goodIn_of _ (by decide +kernel)) ggX5_avalanche_X5_isRing
set_option maxRecDepth 20000 in
theorem ggX5_avalanche_X5_isSector : GoodIn wsX5_avalanche wsX5_isSector := goodIn_r _ [12, 7, 8, 5, 9] rfl (by decide +kernel)
set_option maxRecDepth 20000 in
theorem gX5_avalanche_X5_isSector : GoodIn wsX5_avalanche (va_wsS RX5 100 yX5_isSector wsX5_isSector) := goodIn_app (goodIn_of _ (by decide +kernel)) ggX5_avalanche_X5_isSector
set_option maxRecDepth 20000 in
theorem ggX5_avalanche_X5_in : GoodIn wsX5_avalanche wsX5_in := goodIn_r _ [9] rfl (by decide +kernel)
set_option maxRecDepth 20000 in
theorem gX5_avalanche_X5_in : GoodIn wsX5_avalanche (va_wsS RX5 66 yX5_in wsX5_in) := goodIn_app (goodIn_of _ (by decide +kernel)) ggX5_avalanche_X5_in
set_option maxRecDepth 20000 in
theorem ggX5_avalanche_X5_hasBit : GoodIn wsX5_avalanche wsX5_hasBit := goodIn_r _ [15] rfl (by decide +kernel)
set_option maxRecDepth 20000 in
theorem gX5_avalanche_X5_hasBit : GoodIn wsX5_avalanche (va_wsS RX5 106 yX5_hasBit wsX5_hasBit) := goodIn_app (goodIn_of _ (by decide +kernel)) ggX5_avalanche_X5_hasBit
set_option maxRecDepth 20000 in
theorem ggX5_avalanche_X5_next : GoodIn wsX5_avalanche wsX5_next := goodIn_r _ [18] rfl (by decide +kernel)
set_option maxRecDepth 20000 in
theorem gX5_avalanche_X5_next : GoodIn wsX5_avalanche (va_wsS RX5 151 yX5_next wsX5_next) := goodIn_app (goodIn_of _ (by decide +kernel)) ggX5_avalanche_X5_next
set_option maxRecDepth 20000 in
theorem ggX5_avalanche_X5_before : GoodIn wsX5_avalanche wsX5_before := goodIn_r _ [21] rfl (by decide +kernel)
set_option maxRecDepth 20000 in
theorem gX5_avalanche_X5_before : GoodIn wsX5_avalanche (va_wsS RX5 154 yX5_before wsX5_before) := goodIn_app (goodIn_of _ (by decide +kernel)) ggX5_avalanche_X5_before
set_option maxRecDepth 20000 in
theorem ggX5_rolls_X5_isHeir : GoodIn wsX5_rolls wsX5_isHeir := goodIn_r _ [5, 6, 7, 4, 8] rfl (by decide +kernel)
set_option maxRecDepth 20000 in
theorem gX5_rolls_X5_isHeir : GoodIn wsX5_rolls (va_wsS RX5 97 yX5_isHeir wsX5_isHeir) := goodIn_app (goodIn_of _ (by decide +kernel)) ggX5_rolls_X5_isHeir
set_option maxRecDepth 20000 in
theorem ggX5_rolls_X5_hitBy : GoodIn wsX5_rolls wsX5_hitBy := goodIn_r _ [12, 13, 14, 1, 15, 16, 4, 17, 18, 19, 20, 21, 22, 23, 24, 25, 26, 27, 28, 29, 30, 31, 32, 33, 34, 35, 36, 37, 38, 39] rfl (by decide +kernel)
set_option maxRecDepth 20000 in
theorem gX5_rolls_X5_hitBy : GoodIn wsX5_rolls (wsV RX5 164 RX5 yX5_hitBy wsX5_hitBy) := goodIn_app (goodIn_of _ (by decide +kernel)) ggX5_rolls_X5_hitBy
set_option maxRecDepth 20000 in
theorem ggX5_goes_X5_next : GoodIn wsX5_goes wsX5_next := goodIn_r _ [6] rfl (by decide +kernel)
set_option maxRecDepth 20000 in
theorem gX5_goes_X5_next : GoodIn wsX5_goes (va_wsS RX5 151 yX5_next wsX5_next) := goodIn_app (goodIn_of _ (by decide +kernel)) ggX5_goes_X5_next
set_option maxRecDepth 20000 in
theorem ggX5_goes_X5_before : GoodIn wsX5_goes wsX5_before := goodIn_r _ [9] rfl (by decide +kernel)
set_option maxRecDepth 20000 in
theorem gX5_goes_X5_before : GoodIn wsX5_goes (va_wsS RX5 154 yX5_before wsX5_before) := goodIn_app (goodIn_of _ (by decide +kernel)) ggX5_goes_X5_before
set_option maxRecDepth 20000 in
theorem ggX5_goOne_X5_begins : GoodIn wsX5_goOne wsX5_begins := goodIn_r _ [7, 8, 9, 30, 31, 32, 33, 34, 35, 36, 37, 38, 39, 40, 41, 42, 43, 44, 45, 46, 47, 48, 49, 50, 51] rfl (by decide +kernel)
set_option maxRecDepth 20000 in
theorem gX5_goOne_X5_begins : GoodIn wsX5_goOne (wsV RX5 167 RX5 yX5_begins wsX5_begins) := goodIn_app (goodIn_of _ (by decide +kernel)) ggX5_goOne_X5_begins
set_option maxRecDepth 20000 in
theorem ggX5_goOne_X5_goes : GoodIn wsX5_goOne wsX5_goes := goodIn_r _ [13, 14, 15, 16, 17, 6, 18, 19, 20, 21, 30, 31, 32, 33, 34, 35, 36, 37, 38, 39, 40, 41, 42, 43, 44, 45, 46, 47, 48, 49, 50, 51] rfl (by decide +kernel)
set_option maxRecDepth 20000 in
theorem gX5_goOne_X5_goes : GoodIn wsX5_goOne (wsV RX5 170 RX5 yX5_goes wsX5_goes) := goodIn_app (goodIn_of _ (by decide +kernel)) ggX5_goOne_X5_goes
set_option maxRecDepth 20000 in
theorem ggX5_goOne_X5_ends : GoodIn wsX5_goOne wsX5_ends := goodIn_r _ [25, 8, 9, 30, 31, 32, 33, 34, 35, 36, 37, 38, 39, 40, 41, 42, 43, 44, 45, 46, 47, 48, 49, 50, 51] rfl (by decide +kernel)
set_option maxRecDepth 20000 in
theorem gX5_goOne_X5_ends : GoodIn wsX5_goOne (wsV RX5 173 RX5 yX5_ends wsX5_ends) := goodIn_app (goodIn_of _ (by decide +kernel)) ggX5_goOne_X5_ends
set_option maxRecDepth 20000 in
theorem ggX5_goOne_X5_go : GoodIn wsX5_goOne wsX5_go := goodIn_r _ [29, 14, 15, 30, 31, 32, 33, 34, 35, 36, 37, 38, 39, 40, 41, 42, 43, 44, 45, 46, 47, 48, 49, 50, 51] rfl (by decide +kernel)
set_option maxRecDepth 20000 in
theorem gX5_goOne_X5_go : GoodIn wsX5_goOne (wsV RX5 176 RX5 yX5_go wsX5_go) := goodIn_app (goodIn_of _ (by decide +kernel)) ggX5_goOne_X5_go
set_option maxRecDepth 20000 in
theorem ggX5_fence_X5_isHeir : GoodIn wsX5_fence wsX5_isHeir := goodIn_r _ [6, 7, 8, 5, 9] rfl (by decide +kernel)
set_option maxRecDepth 20000 in
theorem gX5_fence_X5_isHeir : GoodIn wsX5_fence (va_wsS RX5 97 yX5_isHeir wsX5_isHeir) := goodIn_app (goodIn_of _ (by decide +kernel)) ggX5_fence_X5_isHeir
set_option maxRecDepth 20000 in
theorem ggX5_fence_X5_goOne : GoodIn wsX5_fence wsX5_goOne := goodIn_r _ [13, 14, 15, 16, 17, 18, 5, 19, 20, 21, 22, 23, 24, 25, 1, 2, 26, 27, 28, 29, 30, 31, 32, 33, 34, 35, 36, 37, 38, 39, 40, 41, 42, 43, 44, 45, 46, 47, 48, 49, 50, 51, 52, 53, 54, 55, 56, 57, 58, 59, 60, 61] rfl (by decide +kernel)
set_option maxRecDepth 20000 in
theorem gX5_fence_X5_goOne : GoodIn wsX5_fence (wsV RX5 180 RX5 yX5_goOne wsX5_goOne) := goodIn_app (goodIn_of _ (by decide +kernel)) ggX5_fence_X5_goOne
set_option maxRecDepth 20000 in
theorem ggX5_spring_X5_isSector : GoodIn wsX5_spring wsX5_isSector := goodIn_r _ [5, 6, 7, 4, 8] rfl (by decide +kernel)
set_option maxRecDepth 20000 in
theorem gX5_spring_X5_isSector : GoodIn wsX5_spring (va_wsS RX5 100 yX5_isSector wsX5_isSector) := goodIn_app (goodIn_of _ (by decide +kernel)) ggX5_spring_X5_isSector
set_option maxRecDepth 20000 in
theorem ggX5_spring_X5_in : GoodIn wsX5_spring wsX5_in := goodIn_r _ [8] rfl (by decide +kernel)
set_option maxRecDepth 20000 in
theorem gX5_spring_X5_in : GoodIn wsX5_spring (va_wsS RX5 66 yX5_in wsX5_in) := goodIn_app (goodIn_of _ (by decide +kernel)) ggX5_spring_X5_in
set_option maxRecDepth 20000 in
theorem ggX5_boundsBy_X5_next : GoodIn wsX5_boundsBy wsX5_next := goodIn_r _ [5] rfl (by decide +kernel)
set_option maxRecDepth 20000 in
theorem gX5_boundsBy_X5_next : GoodIn wsX5_boundsBy (va_wsS RX5 151 yX5_next wsX5_next) := goodIn_app (goodIn_of _ (by decide +kernel)) ggX5_boundsBy_X5_next
set_option maxRecDepth 20000 in
theorem ggX5_bestWedding_X5_sectorsOf : GoodIn wsX5_bestWedding wsX5_sectorsOf := goodIn_r _ [5, 6, 14, 15, 16, 17, 18, 19, 20, 21, 22, 23, 24, 25, 26, 27, 28, 29, 30, 31, 32, 33, 34, 35] rfl (by decide +kernel)
set_option maxRecDepth 20000 in
theorem gX5_bestWedding_X5_sectorsOf : GoodIn wsX5_bestWedding (wsV RX5 77 RX5 yX5_sectorsOf wsX5_sectorsOf) := goodIn_app (goodIn_of _ (by decide +kernel)) ggX5_bestWedding_X5_sectorsOf
set_option maxRecDepth 20000 in
theorem ggX5_bestWedding_X5_boundsBy : GoodIn wsX5_bestWedding wsX5_boundsBy := goodIn_r _ [10, 6, 11, 12, 4, 13, 14, 15, 16, 17, 18, 19, 20, 21, 22, 23, 24, 25, 26, 27, 28, 29, 30, 31, 32, 33, 34, 35] rfl (by decide +kernel)
set_option maxRecDepth 20000 in
theorem gX5_bestWedding_X5_boundsBy : GoodIn wsX5_bestWedding (wsV RX5 183 RX5 yX5_boundsBy wsX5_boundsBy) := goodIn_app (goodIn_of _ (by decide +kernel)) ggX5_bestWedding_X5_boundsBy
set_option maxRecDepth 20000 in
theorem ggX5_narrowest_X5_before : GoodIn wsX5_narrowest wsX5_before := goodIn_r _ [5] rfl (by decide +kernel)
set_option maxRecDepth 20000 in
theorem gX5_narrowest_X5_before : GoodIn wsX5_narrowest (va_wsS RX5 154 yX5_before wsX5_before) := goodIn_app (goodIn_of _ (by decide +kernel)) ggX5_narrowest_X5_before
set_option maxRecDepth 20000 in
theorem ggX5_bounds_X5_boundsBy : GoodIn wsX5_bounds wsX5_boundsBy := goodIn_r _ [5, 6, 7, 8, 4, 9, 25, 26, 27, 28, 29, 30, 31, 32, 33, 34, 35, 36, 37, 38, 39, 40, 41, 42, 43, 44, 45, 46] rfl (by decide +kernel)
set_option maxRecDepth 20000 in
theorem gX5_bounds_X5_boundsBy : GoodIn wsX5_bounds (wsV RX5 183 RX5 yX5_boundsBy wsX5_boundsBy) := goodIn_app (goodIn_of _ (by decide +kernel)) ggX5_bounds_X5_boundsBy
set_option maxRecDepth 20000 in
theorem ggX5_bounds_X5_bestWedding : GoodIn wsX5_bounds wsX5_bestWedding := goodIn_r _ [13, 14, 15, 16, 4, 17, 6, 1, 2, 3, 5, 7, 8, 9, 25, 26, 27, 28, 29, 30, 31, 32, 33, 34, 35, 36, 37, 38, 39, 40, 41, 42, 43, 44, 45, 46] rfl (by decide +kernel)
set_option maxRecDepth 20000 in
theorem gX5_bounds_X5_bestWedding : GoodIn wsX5_bounds (wsV RX5 186 RX5 yX5_bestWedding wsX5_bestWedding) := goodIn_app (goodIn_of _ (by decide +kernel)) ggX5_bounds_X5_bestWedding
set_option maxRecDepth 20000 in
theorem ggX5_bounds_X5_narrowest : GoodIn wsX5_bounds wsX5_narrowest := goodIn_r _ [21, 6, 22, 23, 4, 24, 25, 26, 27, 28, 29, 30, 31, 32, 33, 34, 35, 36, 37, 38, 39, 40, 41, 42, 43, 44, 45, 46] rfl (by decide +kernel)
set_option maxRecDepth 20000 in
theorem gX5_bounds_X5_narrowest : GoodIn wsX5_bounds (wsV RX5 190 RX5 yX5_narrowest wsX5_narrowest) := goodIn_app (goodIn_of _ (by decide +kernel)) ggX5_bounds_X5_narrowest
set_option maxRecDepth 20000 in
theorem ggX5_image_X5_in : GoodIn wsX5_image wsX5_in := goodIn_r _ [13] rfl (by decide +kernel)
set_option maxRecDepth 20000 in
theorem gX5_image_X5_in : GoodIn wsX5_image (va_wsS RX5 66 yX5_in wsX5_in) := goodIn_app (goodIn_of _ (by decide +kernel)) ggX5_image_X5_in
set_option maxRecDepth 20000 in
theorem ggX5_restore_X5_in : GoodIn wsX5_restore wsX5_in := goodIn_r _ [13] rfl (by decide +kernel)
set_option maxRecDepth 20000 in
theorem gX5_restore_X5_in : GoodIn wsX5_restore (va_wsS RX5 66 yX5_in wsX5_in) := goodIn_app (goodIn_of _ (by decide +kernel)) ggX5_restore_X5_in
set_option maxRecDepth 20000 in
theorem ggX5_told_X5_in : GoodIn wsX5_told wsX5_in := goodIn_r _ [9] rfl (by decide +kernel)
set_option maxRecDepth 20000 in
theorem gX5_told_X5_in : GoodIn wsX5_told (va_wsS RX5 66 yX5_in wsX5_in) := goodIn_app (goodIn_of _ (by decide +kernel)) ggX5_told_X5_in
set_option maxRecDepth 20000 in
theorem ggX5_told_X5_sectorsOf : GoodIn wsX5_told wsX5_sectorsOf := goodIn_r _ [13, 14, 15, 16, 17, 18, 19, 20, 21, 22, 23, 24, 25, 26, 27, 28, 29, 30, 31, 32, 33, 34, 35, 36] rfl (by decide +kernel)
set_option maxRecDepth 20000 in
theorem gX5_told_X5_sectorsOf : GoodIn wsX5_told (wsV RX5 77 RX5 yX5_sectorsOf wsX5_sectorsOf) := goodIn_app (goodIn_of _ (by decide +kernel)) ggX5_told_X5_sectorsOf
