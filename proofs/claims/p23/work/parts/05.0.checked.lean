section
set_option maxRecDepth 100000 in
theorem mk_X0_init : mok km_X0_init = true := by decide +kernel
set_option maxRecDepth 100000 in
theorem mw_X0_init : GoodIn lw_tbl (mwd km_X0_init) := goodIn_r _ [118, 39, 40, 119, 48, 20, 120, 50, 51, 20, 121, 119, 48, 20, 120, 50, 51, 20, 122, 123] (by decide +kernel) (by decide +kernel)
set_option maxRecDepth 100000 in
theorem mk_X0_prepare : mok km_X0_prepare = true := by decide +kernel
set_option maxRecDepth 100000 in
theorem mw_X0_prepare : GoodIn lw_tbl (mwd km_X0_prepare) := goodIn_r _ [123, 522, 391, 392, 393, 19, 523, 145, 146, 147, 19, 121, 524, 353, 354, 355, 19, 525, 335, 336, 337, 20, 122, 526, 254, 255, 256, 20, 122, 525, 335, 336, 337, 20, 527, 529, 14, 530, 23, 522, 391, 392, 393, 19, 123] (by decide +kernel) (by decide +kernel)
set_option maxRecDepth 100000 in
theorem mk_X0_findSets : mok km_X0_findSets = true := by decide +kernel
set_option maxRecDepth 100000 in
theorem mw_X0_findSets : GoodIn lw_tbl (mwd km_X0_findSets) := goodIn_r _ [523, 145, 146, 147, 19, 122, 121, 531, 303, 304, 305, 20, 531, 303, 304, 305, 20, 532, 534, 15, 535, 23] (by decide +kernel) (by decide +kernel)
set_option maxRecDepth 100000 in
theorem mk_X0_addSets : mok km_X0_addSets = true := by decide +kernel
set_option maxRecDepth 100000 in
theorem mw_X0_addSets : GoodIn lw_tbl (mwd km_X0_addSets) := goodIn_r _ [536, 240, 241, 242, 19, 122, 531, 303, 304, 305, 20, 122, 525, 335, 336, 337, 20] (by decide +kernel) (by decide +kernel)
set_option maxRecDepth 100000 in
theorem mk_X0_fewestShots : mok km_X0_fewestShots = true := by decide +kernel
set_option maxRecDepth 100000 in
theorem mw_X0_fewestShots : GoodIn lw_tbl (mwd km_X0_fewestShots) := goodIn_r _ [122, 531, 303, 304, 305, 20] (by decide +kernel) (by decide +kernel)
set_option maxRecDepth 100000 in
theorem mk_X0_bestShot : mok km_X0_bestShot = true := by decide +kernel
set_option maxRecDepth 100000 in
theorem mw_X0_bestShot : GoodIn lw_tbl (mwd km_X0_bestShot) := goodIn_r _ [549, 538, 539, 540, 23, 536, 240, 241, 242, 19, 121, 531, 303, 304, 305, 20, 549, 538, 539, 540, 23] (by decide +kernel) (by decide +kernel)
set_option maxRecDepth 100000 in
theorem mk_X1_init : mok km_X1_init = true := by decide +kernel
set_option maxRecDepth 100000 in
theorem mw_X1_init : GoodIn lw_tbl (mwd km_X1_init) := goodIn_r _ [94, 39, 40, 95, 48, 20, 96, 50, 51, 20, 97, 95, 48, 20, 96, 50, 51, 20, 98, 95, 48, 20, 96, 50, 51, 20, 99, 95, 48, 20, 96, 50, 51, 20, 100, 101] (by decide +kernel) (by decide +kernel)
set_option maxRecDepth 100000 in
theorem mk_X1_prepare : mok km_X1_prepare = true := by decide +kernel
set_option maxRecDepth 100000 in
theorem mw_X1_prepare : GoodIn lw_tbl (mwd km_X1_prepare) := goodIn_r _ [101, 390, 391, 392, 393, 19, 394, 396, 5, 397, 22, 418, 420, 7, 421, 22, 429, 431, 8, 432, 22, 437, 439, 9, 440, 22, 390, 391, 392, 393, 19, 101] (by decide +kernel) (by decide +kernel)
set_option maxRecDepth 100000 in
theorem mk_X1_pair : mok km_X1_pair = true := by decide +kernel
set_option maxRecDepth 100000 in
theorem mw_X1_pair : GoodIn lw_tbl (mwd km_X1_pair) := goodIn_r _ [] (by decide +kernel) (by decide +kernel)
set_option maxRecDepth 100000 in
theorem mk_X1_cell : mok km_X1_cell = true := by decide +kernel
set_option maxRecDepth 100000 in
theorem mw_X1_cell : GoodIn lw_tbl (mwd km_X1_cell) := goodIn_r _ [409, 410, 411, 22] (by decide +kernel) (by decide +kernel)
set_option maxRecDepth 100000 in
theorem mk_X1_beginTable : mok km_X1_beginTable = true := by decide +kernel
set_option maxRecDepth 100000 in
theorem mw_X1_beginTable : GoodIn lw_tbl (mwd km_X1_beginTable) := goodIn_r _ [97, 398, 254, 255, 256, 20, 98, 398, 254, 255, 256, 20, 399, 240, 241, 242, 19, 400, 401, 402, 403, 19, 405, 407, 6, 408, 22] (by decide +kernel) (by decide +kernel)
set_option maxRecDepth 100000 in
theorem mk_X1_addCaught : mok km_X1_addCaught = true := by decide +kernel
set_option maxRecDepth 100000 in
theorem mw_X1_addCaught : GoodIn lw_tbl (mwd km_X1_addCaught) := goodIn_r _ [98, 409, 410, 411, 22, 412, 303, 304, 305, 20, 413, 145, 146, 147, 19, 399, 240, 241, 242, 19, 97, 414, 415, 416, 22, 417, 335, 336, 337, 20, 98, 409, 410, 411, 22, 417, 335, 336, 337, 20] (by decide +kernel) (by decide +kernel)
set_option maxRecDepth 100000 in
theorem mk_X1_letRobberMove : mok km_X1_letRobberMove = true := by decide +kernel
set_option maxRecDepth 100000 in
theorem mw_X1_letRobberMove : GoodIn lw_tbl (mwd km_X1_letRobberMove) := goodIn_r _ [399, 240, 241, 242, 19, 400, 401, 402, 403, 19, 98, 409, 410, 411, 22, 412, 303, 304, 305, 20, 422, 423, 424, 22, 99, 409, 410, 411, 22, 417, 335, 336, 337, 20] (by decide +kernel) (by decide +kernel)
set_option maxRecDepth 100000 in
theorem mk_X1_withoutEscape : mok km_X1_withoutEscape = true := by decide +kernel
set_option maxRecDepth 100000 in
theorem mw_X1_withoutEscape : GoodIn lw_tbl (mwd km_X1_withoutEscape) := goodIn_r _ [399, 240, 241, 242, 19, 425, 426, 427, 428, 19] (by decide +kernel) (by decide +kernel)
set_option maxRecDepth 100000 in
theorem mk_X1_letFirstCopMove : mok km_X1_letFirstCopMove = true := by decide +kernel
set_option maxRecDepth 100000 in
theorem mw_X1_letFirstCopMove : GoodIn lw_tbl (mwd km_X1_letFirstCopMove) := goodIn_r _ [399, 240, 241, 242, 19, 400, 401, 402, 403, 19, 399, 240, 241, 242, 19, 433, 434, 435, 436, 19, 99, 409, 410, 411, 22, 412, 303, 304, 305, 20, 100, 409, 410, 411, 22, 417, 335, 336, 337, 20] (by decide +kernel) (by decide +kernel)
set_option maxRecDepth 100000 in
theorem mk_X1_letSecondCopMove : mok km_X1_letSecondCopMove = true := by decide +kernel
set_option maxRecDepth 100000 in
theorem mw_X1_letSecondCopMove : GoodIn lw_tbl (mwd km_X1_letSecondCopMove) := goodIn_r _ [399, 240, 241, 242, 19, 400, 401, 402, 403, 19, 433, 434, 435, 436, 19, 100, 409, 410, 411, 22, 412, 303, 304, 305, 20, 405, 407, 6, 408, 22] (by decide +kernel) (by decide +kernel)
set_option maxRecDepth 100000 in
theorem mk_X1_copsFirst : mok km_X1_copsFirst = true := by decide +kernel
set_option maxRecDepth 100000 in
theorem mw_X1_copsFirst : GoodIn lw_tbl (mwd km_X1_copsFirst) := goodIn_r _ [97, 414, 415, 416, 22, 412, 303, 304, 305, 20] (by decide +kernel) (by decide +kernel)
set_option maxRecDepth 100000 in
theorem mk_X1_robberFirst : mok km_X1_robberFirst = true := by decide +kernel
set_option maxRecDepth 100000 in
theorem mw_X1_robberFirst : GoodIn lw_tbl (mwd km_X1_robberFirst) := goodIn_r _ [399, 240, 241, 242, 19, 433, 434, 435, 436, 19, 456, 445, 446, 447, 22, 461, 251, 252, 29] (by decide +kernel) (by decide +kernel)
set_option maxRecDepth 100000 in
theorem mk_X1_bestCopMove_0 : ∀ q ∈ kq_X1_bestCopMove_0, rok km_X1_bestCopMove q.1 q.2 = true := by decide +kernel
set_option maxRecDepth 100000 in
theorem mk_X1_bestCopMove_1 : ∀ q ∈ kq_X1_bestCopMove_1, rok km_X1_bestCopMove q.1 q.2 = true := by decide +kernel
set_option maxRecDepth 100000 in
theorem mk_X1_bestCopMove_2 : ∀ q ∈ kq_X1_bestCopMove_2, rok km_X1_bestCopMove q.1 q.2 = true := by decide +kernel
set_option maxRecDepth 100000 in
theorem mk_X1_bestCopMove_3 : ∀ q ∈ kq_X1_bestCopMove_3, rok km_X1_bestCopMove q.1 q.2 = true := by decide +kernel
set_option maxRecDepth 100000 in
theorem mk_X1_bestCopMove_4 : ∀ q ∈ kq_X1_bestCopMove_4, rok km_X1_bestCopMove q.1 q.2 = true := by decide +kernel
set_option maxRecDepth 100000 in
theorem mk_X1_bestCopMove_5 : ∀ q ∈ kq_X1_bestCopMove_5, rok km_X1_bestCopMove q.1 q.2 = true := by decide +kernel
set_option maxRecDepth 100000 in
theorem mk_X1_bestCopMove_6 : ∀ q ∈ kq_X1_bestCopMove_6, rok km_X1_bestCopMove q.1 q.2 = true := by decide +kernel
set_option maxRecDepth 100000 in
theorem mk_X1_bestCopMove_7 : ∀ q ∈ kq_X1_bestCopMove_7, rok km_X1_bestCopMove q.1 q.2 = true := by decide +kernel
set_option maxRecDepth 100000 in
theorem mk_X1_bestCopMove_8 : ∀ q ∈ kq_X1_bestCopMove_8, rok km_X1_bestCopMove q.1 q.2 = true := by decide +kernel
theorem mkr_X1_bestCopMove : ∀ l ∈ kc_X1_bestCopMove, ∀ q ∈ l, rok km_X1_bestCopMove q.1 q.2 = true := (List.forall_mem_cons.mpr ⟨mk_X1_bestCopMove_0, (List.forall_mem_cons.mpr ⟨mk_X1_bestCopMove_1, (List.forall_mem_cons.mpr ⟨mk_X1_bestCopMove_2, (List.forall_mem_cons.mpr ⟨mk_X1_bestCopMove_3, (List.forall_mem_cons.mpr ⟨mk_X1_bestCopMove_4, (List.forall_mem_cons.mpr ⟨mk_X1_bestCopMove_5, (List.forall_mem_cons.mpr ⟨mk_X1_bestCopMove_6, (List.forall_mem_cons.mpr ⟨mk_X1_bestCopMove_7, (List.forall_mem_cons.mpr ⟨mk_X1_bestCopMove_8, (fun _ h => absurd h List.not_mem_nil)⟩)⟩)⟩)⟩)⟩)⟩)⟩)⟩)⟩)
theorem mk_X1_bestCopMove : mok km_X1_bestCopMove = true := mok_of mkr_X1_bestCopMove (by decide +kernel)
set_option maxRecDepth 100000 in
theorem mw_X1_bestCopMove : GoodIn lw_tbl (mwd km_X1_bestCopMove) := goodIn_r _ [456, 445, 446, 447, 22, 399, 240, 241, 242, 19, 433, 434, 435, 436, 19, 433, 434, 435, 436, 19, 457, 459, 10, 460, 22, 462, 463, 464, 22] (by decide +kernel) (by decide +kernel)
set_option maxRecDepth 100000 in
theorem mk_X1_moveNumber : mok km_X1_moveNumber = true := by decide +kernel
set_option maxRecDepth 100000 in
theorem mw_X1_moveNumber : GoodIn lw_tbl (mwd km_X1_moveNumber) := goodIn_r _ [465, 248, 249, 29, 461, 251, 252, 29] (by decide +kernel) (by decide +kernel)
set_option maxRecDepth 100000 in
theorem mk_X1_bestFlight : mok km_X1_bestFlight = true := by decide +kernel
set_option maxRecDepth 100000 in
theorem mw_X1_bestFlight : GoodIn lw_tbl (mwd km_X1_bestFlight) := goodIn_r _ [399, 240, 241, 242, 19, 433, 434, 435, 436, 19, 456, 445, 446, 447, 22, 474] (by decide +kernel) (by decide +kernel)
set_option maxRecDepth 100000 in
theorem mk_X1_oneCatches : mok km_X1_oneCatches = true := by decide +kernel
set_option maxRecDepth 100000 in
theorem mw_X1_oneCatches : GoodIn lw_tbl (mwd km_X1_oneCatches) := goodIn_r _ [484, 486, 11, 487, 22] (by decide +kernel) (by decide +kernel)
set_option maxRecDepth 100000 in
theorem mk_X1_twoCatch : mok km_X1_twoCatch = true := by decide +kernel
set_option maxRecDepth 100000 in
theorem mw_X1_twoCatch : GoodIn lw_tbl (mwd km_X1_twoCatch) := goodIn_r _ [399, 240, 241, 242, 19, 484, 486, 11, 487, 22] (by decide +kernel) (by decide +kernel)
set_option maxRecDepth 100000 in
theorem mk_X1_catchesFrom : mok km_X1_catchesFrom = true := by decide +kernel
set_option maxRecDepth 100000 in
theorem mw_X1_catchesFrom : GoodIn lw_tbl (mwd km_X1_catchesFrom) := goodIn_r _ [399, 240, 241, 242, 19, 98, 409, 410, 411, 22, 412, 303, 304, 305, 20, 413, 145, 146, 147, 19] (by decide +kernel) (by decide +kernel)
set_option maxRecDepth 100000 in
theorem mk_X2_init : mok km_X2_init = true := by decide +kernel
set_option maxRecDepth 100000 in
theorem mw_X2_init : GoodIn lw_tbl (mwd km_X2_init) := goodIn_r _ [136, 39, 40, 137, 138] (by decide +kernel) (by decide +kernel)
set_option maxRecDepth 100000 in
theorem mk_X2_prepare : mok km_X2_prepare = true := by decide +kernel
set_option maxRecDepth 100000 in
theorem mw_X2_prepare : GoodIn lw_tbl (mwd km_X2_prepare) := goodIn_r _ [138, 581, 391, 392, 393, 19, 582, 145, 146, 147, 19, 137, 582, 145, 146, 147, 19, 567, 568, 569, 32, 137, 567, 568, 569, 32, 583, 560, 561, 24, 582, 145, 146, 147, 19, 137, 581, 391, 392, 393, 19, 138] (by decide +kernel) (by decide +kernel)
set_option maxRecDepth 100000 in
theorem mk_X2_least : mok km_X2_least = true := by decide +kernel
set_option maxRecDepth 100000 in
theorem mw_X2_least : GoodIn lw_tbl (mwd km_X2_least) := goodIn_r _ [137] (by decide +kernel) (by decide +kernel)
set_option maxRecDepth 100000 in
theorem mk_X2_spread : mok km_X2_spread = true := by decide +kernel
set_option maxRecDepth 100000 in
theorem mw_X2_spread : GoodIn lw_tbl (mwd km_X2_spread) := goodIn_r _ [562, 563, 564, 24] (by decide +kernel) (by decide +kernel)
set_option maxRecDepth 100000 in
theorem mk_X2_afterRound : mok km_X2_afterRound = true := by decide +kernel
set_option maxRecDepth 100000 in
theorem mw_X2_afterRound : GoodIn lw_tbl (mwd km_X2_afterRound) := goodIn_r _ [565, 240, 241, 242, 19, 566, 299, 300, 301, 19, 567, 568, 569, 32] (by decide +kernel) (by decide +kernel)
set_option maxRecDepth 100000 in
theorem mk_X3_init : mok km_X3_init = true := by decide +kernel
set_option maxRecDepth 100000 in
theorem mw_X3_init : GoodIn lw_tbl (mwd km_X3_init) := goodIn_r _ [73, 39, 40, 74, 48, 20, 75, 50, 51, 20, 76, 74, 48, 20, 75, 50, 51, 20, 77, 74, 48, 20, 75, 50, 51, 20, 78, 79] (by decide +kernel) (by decide +kernel)
set_option maxRecDepth 100000 in
theorem mk_X3_count : mok km_X3_count = true := by decide +kernel
set_option maxRecDepth 100000 in
theorem mw_X3_count : GoodIn lw_tbl (mwd km_X3_count) := goodIn_r _ [79] (by decide +kernel) (by decide +kernel)
set_option maxRecDepth 100000 in
theorem mk_X3_forget : mok km_X3_forget = true := by decide +kernel
set_option maxRecDepth 100000 in
theorem mw_X3_forget : GoodIn lw_tbl (mwd km_X3_forget) := goodIn_r _ [79] (by decide +kernel) (by decide +kernel)
set_option maxRecDepth 100000 in
theorem mk_X3_add : mok km_X3_add = true := by decide +kernel
set_option maxRecDepth 100000 in
theorem mw_X3_add : GoodIn lw_tbl (mwd km_X3_add) := goodIn_r _ [79, 76, 79, 334, 335, 336, 337, 20, 77, 79, 334, 335, 336, 337, 20, 78, 79, 334, 335, 336, 337, 20, 79, 79] (by decide +kernel) (by decide +kernel)
end
