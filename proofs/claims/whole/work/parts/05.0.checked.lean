section
set_option maxRecDepth 100000 in
theorem mk_X0_init : mok km_X0_init = true := by decide +kernel
set_option maxRecDepth 100000 in
theorem mw_X0_init : GoodIn lw_tbl (mwd km_X0_init) := goodIn_r _ [140, 61, 62, 141, 70, 40, 142, 72, 73, 40, 143, 141, 70, 40, 142, 72, 73, 40, 144, 145] (by decide +kernel) (by decide +kernel)
set_option maxRecDepth 100000 in
theorem mk_X0_prepare : mok km_X0_prepare = true := by decide +kernel
set_option maxRecDepth 100000 in
theorem mw_X0_prepare : GoodIn lw_tbl (mwd km_X0_prepare) := goodIn_r _ [145, 244, 245, 246, 247, 39, 248, 167, 168, 169, 39, 143, 249, 250, 251, 252, 39, 253, 254, 255, 256, 40, 144, 257, 258, 259, 260, 40, 144, 253, 254, 255, 256, 40, 261, 263, 2, 264, 43, 244, 245, 246, 247, 39, 145] (by decide +kernel) (by decide +kernel)
set_option maxRecDepth 100000 in
theorem mk_X0_findSets : mok km_X0_findSets = true := by decide +kernel
set_option maxRecDepth 100000 in
theorem mw_X0_findSets : GoodIn lw_tbl (mwd km_X0_findSets) := goodIn_r _ [248, 167, 168, 169, 39, 144, 143, 265, 202, 203, 204, 40, 265, 202, 203, 204, 40, 266, 268, 3, 269, 43] (by decide +kernel) (by decide +kernel)
set_option maxRecDepth 100000 in
theorem mk_X0_addSets : mok km_X0_addSets = true := by decide +kernel
set_option maxRecDepth 100000 in
theorem mw_X0_addSets : GoodIn lw_tbl (mwd km_X0_addSets) := goodIn_r _ [270, 271, 272, 273, 39, 144, 265, 202, 203, 204, 40, 144, 253, 254, 255, 256, 40] (by decide +kernel) (by decide +kernel)
set_option maxRecDepth 100000 in
theorem mk_X0_fewestShots : mok km_X0_fewestShots = true := by decide +kernel
set_option maxRecDepth 100000 in
theorem mw_X0_fewestShots : GoodIn lw_tbl (mwd km_X0_fewestShots) := goodIn_r _ [144, 265, 202, 203, 204, 40] (by decide +kernel) (by decide +kernel)
set_option maxRecDepth 100000 in
theorem mk_X0_bestShot : mok km_X0_bestShot = true := by decide +kernel
set_option maxRecDepth 100000 in
theorem mw_X0_bestShot : GoodIn lw_tbl (mwd km_X0_bestShot) := goodIn_r _ [286, 275, 276, 277, 43, 270, 271, 272, 273, 39, 143, 265, 202, 203, 204, 40, 286, 275, 276, 277, 43] (by decide +kernel) (by decide +kernel)
set_option maxRecDepth 100000 in
theorem mk_X1_init : mok km_X1_init = true := by decide +kernel
set_option maxRecDepth 100000 in
theorem mw_X1_init : GoodIn lw_tbl (mwd km_X1_init) := goodIn_r _ [116, 61, 62, 117, 70, 40, 118, 72, 73, 40, 119, 117, 70, 40, 118, 72, 73, 40, 120, 117, 70, 40, 118, 72, 73, 40, 121, 117, 70, 40, 118, 72, 73, 40, 122, 123] (by decide +kernel) (by decide +kernel)
set_option maxRecDepth 100000 in
theorem mk_X1_prepare : mok km_X1_prepare = true := by decide +kernel
set_option maxRecDepth 100000 in
theorem mw_X1_prepare : GoodIn lw_tbl (mwd km_X1_prepare) := goodIn_r _ [123, 558, 245, 246, 247, 39, 559, 561, 10, 562, 42, 583, 585, 12, 586, 42, 591, 593, 13, 594, 42, 599, 601, 14, 602, 42, 558, 245, 246, 247, 39, 123] (by decide +kernel) (by decide +kernel)
set_option maxRecDepth 100000 in
theorem mk_X1_pair : mok km_X1_pair = true := by decide +kernel
set_option maxRecDepth 100000 in
theorem mw_X1_pair : GoodIn lw_tbl (mwd km_X1_pair) := goodIn_r _ [] (by decide +kernel) (by decide +kernel)
set_option maxRecDepth 100000 in
theorem mk_X1_cell : mok km_X1_cell = true := by decide +kernel
set_option maxRecDepth 100000 in
theorem mw_X1_cell : GoodIn lw_tbl (mwd km_X1_cell) := goodIn_r _ [574, 575, 576, 42] (by decide +kernel) (by decide +kernel)
set_option maxRecDepth 100000 in
theorem mk_X1_beginTable : mok km_X1_beginTable = true := by decide +kernel
set_option maxRecDepth 100000 in
theorem mw_X1_beginTable : GoodIn lw_tbl (mwd km_X1_beginTable) := goodIn_r _ [119, 563, 258, 259, 260, 40, 120, 563, 258, 259, 260, 40, 564, 271, 272, 273, 39, 565, 566, 567, 568, 39, 570, 572, 11, 573, 42] (by decide +kernel) (by decide +kernel)
set_option maxRecDepth 100000 in
theorem mk_X1_addCaught : mok km_X1_addCaught = true := by decide +kernel
set_option maxRecDepth 100000 in
theorem mw_X1_addCaught : GoodIn lw_tbl (mwd km_X1_addCaught) := goodIn_r _ [120, 574, 575, 576, 42, 577, 202, 203, 204, 40, 578, 167, 168, 169, 39, 564, 271, 272, 273, 39, 119, 579, 580, 581, 42, 582, 254, 255, 256, 40, 120, 574, 575, 576, 42, 582, 254, 255, 256, 40] (by decide +kernel) (by decide +kernel)
set_option maxRecDepth 100000 in
theorem mk_X1_letRobberMove : mok km_X1_letRobberMove = true := by decide +kernel
set_option maxRecDepth 100000 in
theorem mw_X1_letRobberMove : GoodIn lw_tbl (mwd km_X1_letRobberMove) := goodIn_r _ [564, 271, 272, 273, 39, 565, 566, 567, 568, 39, 120, 574, 575, 576, 42, 577, 202, 203, 204, 40, 587, 588, 589, 42, 121, 574, 575, 576, 42, 582, 254, 255, 256, 40] (by decide +kernel) (by decide +kernel)
set_option maxRecDepth 100000 in
theorem mk_X1_withoutEscape : mok km_X1_withoutEscape = true := by decide +kernel
set_option maxRecDepth 100000 in
theorem mw_X1_withoutEscape : GoodIn lw_tbl (mwd km_X1_withoutEscape) := goodIn_r _ [564, 271, 272, 273, 39, 590, 229, 230, 231, 39] (by decide +kernel) (by decide +kernel)
set_option maxRecDepth 100000 in
theorem mk_X1_letFirstCopMove : mok km_X1_letFirstCopMove = true := by decide +kernel
set_option maxRecDepth 100000 in
theorem mw_X1_letFirstCopMove : GoodIn lw_tbl (mwd km_X1_letFirstCopMove) := goodIn_r _ [564, 271, 272, 273, 39, 565, 566, 567, 568, 39, 564, 271, 272, 273, 39, 595, 596, 597, 598, 39, 121, 574, 575, 576, 42, 577, 202, 203, 204, 40, 122, 574, 575, 576, 42, 582, 254, 255, 256, 40] (by decide +kernel) (by decide +kernel)
set_option maxRecDepth 100000 in
theorem mk_X1_letSecondCopMove : mok km_X1_letSecondCopMove = true := by decide +kernel
set_option maxRecDepth 100000 in
theorem mw_X1_letSecondCopMove : GoodIn lw_tbl (mwd km_X1_letSecondCopMove) := goodIn_r _ [564, 271, 272, 273, 39, 565, 566, 567, 568, 39, 595, 596, 597, 598, 39, 122, 574, 575, 576, 42, 577, 202, 203, 204, 40, 570, 572, 11, 573, 42] (by decide +kernel) (by decide +kernel)
set_option maxRecDepth 100000 in
theorem mk_X1_copsFirst : mok km_X1_copsFirst = true := by decide +kernel
set_option maxRecDepth 100000 in
theorem mw_X1_copsFirst : GoodIn lw_tbl (mwd km_X1_copsFirst) := goodIn_r _ [119, 579, 580, 581, 42, 577, 202, 203, 204, 40] (by decide +kernel) (by decide +kernel)
set_option maxRecDepth 100000 in
theorem mk_X1_robberFirst : mok km_X1_robberFirst = true := by decide +kernel
set_option maxRecDepth 100000 in
theorem mw_X1_robberFirst : GoodIn lw_tbl (mwd km_X1_robberFirst) := goodIn_r _ [564, 271, 272, 273, 39, 595, 596, 597, 598, 39, 643, 607, 608, 609, 42, 648, 395, 396, 50] (by decide +kernel) (by decide +kernel)
set_option maxRecDepth 100000 in
theorem mk_X1_bestCopMove_0 : ∀ q ∈ kq_X1_bestCopMove_0, rok km_X1_bestCopMove q.1 q.2 = true := by decide +kernel
set_option maxRecDepth 100000 in
theorem mk_X1_bestCopMove_1 : ∀ q ∈ kq_X1_bestCopMove_1, rok km_X1_bestCopMove q.1 q.2 = true := by decide +kernel
set_option maxRecDepth 100000 in
theorem mk_X1_bestCopMove_2 : ∀ q ∈ kq_X1_bestCopMove_2, rok km_X1_bestCopMove q.1 q.2 = true := by decide +kernel
set_option maxRecDepth 100000 in
theorem mk_X1_bestCopMove_3 : ∀ q ∈ kq_X1_bestCopMove_3, rok km_X1_bestCopMove q.1 q.2 = true := by decide +kernel
set_option maxRecDepth 100000 in
theorem mk_X1_bestCopMove_4 : ∀ q ∈ kq_X1_bestCopMove_4, rok km_X1_bestCopMove q.1 q.2 = true := by decide +kernel
set_option maxRecDepth 100000 in
theorem mk_X1_bestCopMove_5 : ∀ q ∈ kq_X1_bestCopMove_5, rok km_X1_bestCopMove q.1 q.2 = true := by decide +kernel
set_option maxRecDepth 100000 in
theorem mk_X1_bestCopMove_6 : ∀ q ∈ kq_X1_bestCopMove_6, rok km_X1_bestCopMove q.1 q.2 = true := by decide +kernel
set_option maxRecDepth 100000 in
theorem mk_X1_bestCopMove_7 : ∀ q ∈ kq_X1_bestCopMove_7, rok km_X1_bestCopMove q.1 q.2 = true := by decide +kernel
set_option maxRecDepth 100000 in
theorem mk_X1_bestCopMove_8 : ∀ q ∈ kq_X1_bestCopMove_8, rok km_X1_bestCopMove q.1 q.2 = true := by decide +kernel
theorem mkr_X1_bestCopMove : ∀ l ∈ kc_X1_bestCopMove, ∀ q ∈ l, rok km_X1_bestCopMove q.1 q.2 = true := (List.forall_mem_cons.mpr ⟨mk_X1_bestCopMove_0, (List.forall_mem_cons.mpr ⟨mk_X1_bestCopMove_1, (List.forall_mem_cons.mpr ⟨mk_X1_bestCopMove_2, (List.forall_mem_cons.mpr ⟨mk_X1_bestCopMove_3, (List.forall_mem_cons.mpr ⟨mk_X1_bestCopMove_4, (List.forall_mem_cons.mpr ⟨mk_X1_bestCopMove_5, (List.forall_mem_cons.mpr ⟨mk_X1_bestCopMove_6, (List.forall_mem_cons.mpr ⟨mk_X1_bestCopMove_7, (List.forall_mem_cons.mpr ⟨mk_X1_bestCopMove_8, (fun _ h => absurd h List.not_mem_nil)⟩)⟩)⟩)⟩)⟩)⟩)⟩)⟩)⟩)
theorem mk_X1_bestCopMove : mok km_X1_bestCopMove = true := mok_of mkr_X1_bestCopMove (by decide +kernel)
set_option maxRecDepth 100000 in
theorem mw_X1_bestCopMove : GoodIn lw_tbl (mwd km_X1_bestCopMove) := goodIn_r _ [643, 607, 608, 609, 42, 564, 271, 272, 273, 39, 595, 596, 597, 598, 39, 595, 596, 597, 598, 39, 644, 646, 15, 647, 42, 649, 650, 651, 42] (by decide +kernel) (by decide +kernel)
set_option maxRecDepth 100000 in
theorem mk_X1_moveNumber : mok km_X1_moveNumber = true := by decide +kernel
set_option maxRecDepth 100000 in
theorem mw_X1_moveNumber : GoodIn lw_tbl (mwd km_X1_moveNumber) := goodIn_r _ [652, 392, 393, 50, 648, 395, 396, 50] (by decide +kernel) (by decide +kernel)
set_option maxRecDepth 100000 in
theorem mk_X1_bestFlight : mok km_X1_bestFlight = true := by decide +kernel
set_option maxRecDepth 100000 in
theorem mw_X1_bestFlight : GoodIn lw_tbl (mwd km_X1_bestFlight) := goodIn_r _ [564, 271, 272, 273, 39, 595, 596, 597, 598, 39, 643, 607, 608, 609, 42, 664] (by decide +kernel) (by decide +kernel)
set_option maxRecDepth 100000 in
theorem mk_X1_oneCatches : mok km_X1_oneCatches = true := by decide +kernel
set_option maxRecDepth 100000 in
theorem mw_X1_oneCatches : GoodIn lw_tbl (mwd km_X1_oneCatches) := goodIn_r _ [677, 679, 16, 680, 42] (by decide +kernel) (by decide +kernel)
set_option maxRecDepth 100000 in
theorem mk_X1_twoCatch : mok km_X1_twoCatch = true := by decide +kernel
set_option maxRecDepth 100000 in
theorem mw_X1_twoCatch : GoodIn lw_tbl (mwd km_X1_twoCatch) := goodIn_r _ [564, 271, 272, 273, 39, 677, 679, 16, 680, 42] (by decide +kernel) (by decide +kernel)
set_option maxRecDepth 100000 in
theorem mk_X1_catchesFrom : mok km_X1_catchesFrom = true := by decide +kernel
set_option maxRecDepth 100000 in
theorem mw_X1_catchesFrom : GoodIn lw_tbl (mwd km_X1_catchesFrom) := goodIn_r _ [564, 271, 272, 273, 39, 120, 574, 575, 576, 42, 577, 202, 203, 204, 40, 578, 167, 168, 169, 39] (by decide +kernel) (by decide +kernel)
set_option maxRecDepth 100000 in
theorem mk_X2_init : mok km_X2_init = true := by decide +kernel
set_option maxRecDepth 100000 in
theorem mw_X2_init : GoodIn lw_tbl (mwd km_X2_init) := goodIn_r _ [158, 61, 62, 159, 160] (by decide +kernel) (by decide +kernel)
set_option maxRecDepth 100000 in
theorem mk_X2_prepare : mok km_X2_prepare = true := by decide +kernel
set_option maxRecDepth 100000 in
theorem mw_X2_prepare : GoodIn lw_tbl (mwd km_X2_prepare) := goodIn_r _ [160, 295, 245, 246, 247, 39, 296, 167, 168, 169, 39, 159, 296, 167, 168, 169, 39, 297, 206, 207, 52, 159, 297, 206, 207, 52, 298, 299, 300, 44, 296, 167, 168, 169, 39, 159, 295, 245, 246, 247, 39, 160] (by decide +kernel) (by decide +kernel)
set_option maxRecDepth 100000 in
theorem mk_X2_least : mok km_X2_least = true := by decide +kernel
set_option maxRecDepth 100000 in
theorem mw_X2_least : GoodIn lw_tbl (mwd km_X2_least) := goodIn_r _ [159] (by decide +kernel) (by decide +kernel)
set_option maxRecDepth 100000 in
theorem mk_X2_spread : mok km_X2_spread = true := by decide +kernel
set_option maxRecDepth 100000 in
theorem mw_X2_spread : GoodIn lw_tbl (mwd km_X2_spread) := goodIn_r _ [301, 302, 303, 44] (by decide +kernel) (by decide +kernel)
set_option maxRecDepth 100000 in
theorem mk_X2_countRounds : mok km_X2_countRounds = true := by decide +kernel
set_option maxRecDepth 100000 in
theorem mw_X2_countRounds : GoodIn lw_tbl (mwd km_X2_countRounds) := goodIn_r _ [301, 302, 303, 44] (by decide +kernel) (by decide +kernel)
set_option maxRecDepth 100000 in
theorem mk_X2_afterRound : mok km_X2_afterRound = true := by decide +kernel
set_option maxRecDepth 100000 in
theorem mw_X2_afterRound : GoodIn lw_tbl (mwd km_X2_afterRound) := goodIn_r _ [304, 271, 272, 273, 39, 305, 198, 199, 200, 39, 297, 206, 207, 52] (by decide +kernel) (by decide +kernel)
set_option maxRecDepth 100000 in
theorem mk_X3_init : mok km_X3_init = true := by decide +kernel
set_option maxRecDepth 100000 in
theorem mw_X3_init : GoodIn lw_tbl (mwd km_X3_init) := goodIn_r _ [95, 61, 62, 96, 70, 40, 97, 72, 73, 40, 98, 96, 70, 40, 97, 72, 73, 40, 99, 96, 70, 40, 97, 72, 73, 40, 100, 101] (by decide +kernel) (by decide +kernel)
end
