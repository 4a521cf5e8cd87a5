section
set_option maxRecDepth 100000 in
theorem mk_X3_latestRoom : mok km_X3_latestRoom = true := by decide +kernel
set_option maxRecDepth 100000 in
theorem mw_X3_latestRoom : GoodIn lw_tbl (mwd km_X3_latestRoom) := goodIn_r _ [76, 79, 365, 303, 304, 305, 20] (by decide +kernel) (by decide +kernel)
set_option maxRecDepth 100000 in
theorem mk_X3_latestOther : mok km_X3_latestOther = true := by decide +kernel
set_option maxRecDepth 100000 in
theorem mw_X3_latestOther : GoodIn lw_tbl (mwd km_X3_latestOther) := goodIn_r _ [77, 79, 365, 303, 304, 305, 20] (by decide +kernel) (by decide +kernel)
set_option maxRecDepth 100000 in
theorem mk_X3_latestSet : mok km_X3_latestSet = true := by decide +kernel
set_option maxRecDepth 100000 in
theorem mw_X3_latestSet : GoodIn lw_tbl (mwd km_X3_latestSet) := goodIn_r _ [78, 79, 365, 303, 304, 305, 20] (by decide +kernel) (by decide +kernel)
set_option maxRecDepth 100000 in
theorem mk_X3_dropLatest : mok km_X3_dropLatest = true := by decide +kernel
set_option maxRecDepth 100000 in
theorem mw_X3_dropLatest : GoodIn lw_tbl (mwd km_X3_dropLatest) := goodIn_r _ [79, 79, 79] (by decide +kernel) (by decide +kernel)
set_option maxRecDepth 100000 in
theorem mk_X4_init : mok km_X4_init = true := by decide +kernel
set_option maxRecDepth 100000 in
theorem mw_X4_init : GoodIn lw_tbl (mwd km_X4_init) := goodIn_r _ [46, 39, 40, 47, 48, 20, 49, 50, 51, 20, 58, 59, 60] (by decide +kernel) (by decide +kernel)
set_option maxRecDepth 100000 in
theorem mk_X4_begin : mok km_X4_begin = true := by decide +kernel
set_option maxRecDepth 100000 in
theorem mw_X4_begin : GoodIn lw_tbl (mwd km_X4_begin) := goodIn_r _ [247, 248, 249, 29, 250, 251, 252, 29, 59, 58, 253, 254, 255, 256, 20, 60, 60] (by decide +kernel) (by decide +kernel)
set_option maxRecDepth 100000 in
theorem mk_X4_size : mok km_X4_size = true := by decide +kernel
set_option maxRecDepth 100000 in
theorem mw_X4_size : GoodIn lw_tbl (mwd km_X4_size) := goodIn_r _ [59] (by decide +kernel) (by decide +kernel)
set_option maxRecDepth 100000 in
theorem mk_X4_version : mok km_X4_version = true := by decide +kernel
set_option maxRecDepth 100000 in
theorem mw_X4_version : GoodIn lw_tbl (mwd km_X4_version) := goodIn_r _ [60] (by decide +kernel) (by decide +kernel)
set_option maxRecDepth 100000 in
theorem mk_X4_has : mok km_X4_has = true := by decide +kernel
set_option maxRecDepth 100000 in
theorem mw_X4_has : GoodIn lw_tbl (mwd km_X4_has) := goodIn_r _ [59] (by decide +kernel) (by decide +kernel)
set_option maxRecDepth 100000 in
theorem mk_X4_all : mok km_X4_all = true := by decide +kernel
set_option maxRecDepth 100000 in
theorem mw_X4_all : GoodIn lw_tbl (mwd km_X4_all) := goodIn_r _ [59] (by decide +kernel) (by decide +kernel)
set_option maxRecDepth 100000 in
theorem mk_X4_nextTo : mok km_X4_nextTo = true := by decide +kernel
set_option maxRecDepth 100000 in
theorem mw_X4_nextTo : GoodIn lw_tbl (mwd km_X4_nextTo) := goodIn_r _ [58, 302, 303, 304, 305, 20] (by decide +kernel) (by decide +kernel)
set_option maxRecDepth 100000 in
theorem mk_X4_hasDoor : mok km_X4_hasDoor = true := by decide +kernel
set_option maxRecDepth 100000 in
theorem mw_X4_hasDoor : GoodIn lw_tbl (mwd km_X4_hasDoor) := goodIn_r _ [298, 299, 300, 301, 19] (by decide +kernel) (by decide +kernel)
set_option maxRecDepth 100000 in
theorem mk_X4_turnDoor : mok km_X4_turnDoor = true := by decide +kernel
set_option maxRecDepth 100000 in
theorem mw_X4_turnDoor : GoodIn lw_tbl (mwd km_X4_turnDoor) := goodIn_r _ [58, 298, 299, 300, 301, 19, 342, 335, 336, 337, 20, 58, 298, 299, 300, 301, 19, 342, 335, 336, 337, 20, 60, 60] (by decide +kernel) (by decide +kernel)
set_option maxRecDepth 100000 in
theorem mk_X4_isPlace : mok km_X4_isPlace = true := by decide +kernel
set_option maxRecDepth 100000 in
theorem mw_X4_isPlace : GoodIn lw_tbl (mwd km_X4_isPlace) := goodIn_r _ [404, 274, 275, 276, 19] (by decide +kernel) (by decide +kernel)
set_option maxRecDepth 100000 in
theorem mk_X4_nearTo : mok km_X4_nearTo = true := by decide +kernel
set_option maxRecDepth 100000 in
theorem mw_X4_nearTo : GoodIn lw_tbl (mwd km_X4_nearTo) := goodIn_r _ [58, 302, 303, 304, 305, 20] (by decide +kernel) (by decide +kernel)
set_option maxRecDepth 100000 in
theorem mk_X4_areNear : mok km_X4_areNear = true := by decide +kernel
set_option maxRecDepth 100000 in
theorem mw_X4_areNear : GoodIn lw_tbl (mwd km_X4_areNear) := goodIn_r _ [58, 302, 303, 304, 305, 20] (by decide +kernel) (by decide +kernel)
set_option maxRecDepth 100000 in
theorem mk_X4_nextToSome : mok km_X4_nextToSome = true := by decide +kernel
set_option maxRecDepth 100000 in
theorem mw_X4_nextToSome : GoodIn lw_tbl (mwd km_X4_nextToSome) := goodIn_r _ [59, 298, 299, 300, 301, 19] (by decide +kernel) (by decide +kernel)
set_option maxRecDepth 100000 in
theorem mk_X4_afterShot : mok km_X4_afterShot = true := by decide +kernel
set_option maxRecDepth 100000 in
theorem mw_X4_afterShot : GoodIn lw_tbl (mwd km_X4_afterShot) := goodIn_r _ [352, 353, 354, 355, 19] (by decide +kernel) (by decide +kernel)
set_option maxRecDepth 100000 in
theorem mk_X4_losesAllCorners : mok km_X4_losesAllCorners = true := by decide +kernel
set_option maxRecDepth 100000 in
theorem mw_X4_losesAllCorners : GoodIn lw_tbl (mwd km_X4_losesAllCorners) := goodIn_r _ [500, 145, 146, 147, 19, 59, 501, 503, 12, 504, 19] (by decide +kernel) (by decide +kernel)
set_option maxRecDepth 100000 in
theorem mk_X4_lowestCorner : mok km_X4_lowestCorner = true := by decide +kernel
set_option maxRecDepth 100000 in
theorem mw_X4_lowestCorner : GoodIn lw_tbl (mwd km_X4_lowestCorner) := goodIn_r _ [59, 505, 507, 13, 508, 19] (by decide +kernel) (by decide +kernel)
set_option maxRecDepth 100000 in
theorem mk_X4_isCorner : mok km_X4_isCorner = true := by decide +kernel
set_option maxRecDepth 100000 in
theorem mw_X4_isCorner : GoodIn lw_tbl (mwd km_X4_isCorner) := goodIn_r _ [509, 426, 427, 428, 19, 59, 509, 426, 427, 428, 19] (by decide +kernel) (by decide +kernel)
set_option maxRecDepth 100000 in
theorem mk_X6_init : mok km_X6_init = true := by decide +kernel
set_option maxRecDepth 100000 in
theorem mw_X6_init : GoodIn lw_tbl (mwd km_X6_init) := goodIn_r _ [52, 39, 40, 57, 53] (by decide +kernel) (by decide +kernel)
set_option maxRecDepth 100000 in
theorem mk_X6_at : mok km_X6_at = true := by decide +kernel
set_option maxRecDepth 100000 in
theorem mw_X6_at : GoodIn lw_tbl (mwd km_X6_at) := goodIn_r _ [53, 53] (by decide +kernel) (by decide +kernel)
set_option maxRecDepth 100000 in
theorem mk_X6_put : mok km_X6_put = true := by decide +kernel
set_option maxRecDepth 100000 in
theorem mw_X6_put : GoodIn lw_tbl (mwd km_X6_put) := goodIn_r _ [53, 53] (by decide +kernel) (by decide +kernel)
set_option maxRecDepth 100000 in
theorem mk_X6_putAll : mok km_X6_putAll = true := by decide +kernel
set_option maxRecDepth 100000 in
theorem mw_X6_putAll : GoodIn lw_tbl (mwd km_X6_putAll) := goodIn_r _ [53, 53] (by decide +kernel) (by decide +kernel)
set_option maxRecDepth 100000 in
theorem mk_X7_init : mok km_X7_init = true := by decide +kernel
set_option maxRecDepth 100000 in
theorem mw_X7_init : GoodIn lw_tbl (mwd km_X7_init) := goodIn_r _ [38, 39, 40, 41, 42, 19, 43, 44, 45, 19, 148, 68, 69, 21, 70, 71, 72, 21, 149, 89, 90, 22, 91, 92, 93, 22, 150, 113, 114, 23, 115, 116, 117, 23, 151, 131, 132, 24, 133, 134, 135, 24, 152, 148, 144, 145, 146, 147, 19, 153] (by decide +kernel) (by decide +kernel)
set_option maxRecDepth 100000 in
theorem mk_X7_rooms : mok km_X7_rooms = true := by decide +kernel
set_option maxRecDepth 100000 in
theorem mw_X7_rooms : GoodIn lw_tbl (mwd km_X7_rooms) := goodIn_r _ [171, 28, 148, 239, 240, 241, 242, 19, 148, 243, 244, 245, 246, 19, 257, 259, 1, 260, 18] (by decide +kernel) (by decide +kernel)
set_option maxRecDepth 100000 in
theorem mk_X7_door : mok km_X7_door = true := by decide +kernel
set_option maxRecDepth 100000 in
theorem mw_X7_door : GoodIn lw_tbl (mwd km_X7_door) := goodIn_r _ [269, 271, 2, 272, 18, 269, 271, 2, 272, 18, 171, 28, 148, 294, 295, 296, 297, 19, 306, 308, 3, 309, 18, 149, 153, 330, 331, 332, 333, 21, 148, 338, 339, 340, 341, 19, 148, 144, 145, 146, 147, 19, 153] (by decide +kernel) (by decide +kernel)
set_option maxRecDepth 100000 in
theorem mk_X7_shoot : mok km_X7_shoot = true := by decide +kernel
set_option maxRecDepth 100000 in
theorem mw_X7_shoot : GoodIn lw_tbl (mwd km_X7_shoot) := goodIn_r _ [269, 271, 2, 272, 18, 153, 314, 31, 306, 308, 3, 309, 18, 149, 153, 330, 331, 332, 333, 21, 148, 153, 348, 349, 350, 351, 19, 153, 153] (by decide +kernel) (by decide +kernel)
set_option maxRecDepth 100000 in
theorem mk_X7_back : mok km_X7_back = true := by decide +kernel
set_option maxRecDepth 100000 in
theorem mw_X7_back : GoodIn lw_tbl (mwd km_X7_back) := goodIn_r _ [149, 310, 311, 312, 313, 21, 314, 31, 149, 361, 362, 363, 364, 21, 148, 149, 366, 367, 368, 369, 21, 338, 339, 340, 341, 19, 149, 370, 371, 372, 373, 21, 153, 149, 374, 375, 376, 377, 21, 149, 310, 311, 312, 313, 21] (by decide +kernel) (by decide +kernel)
set_option maxRecDepth 100000 in
theorem mk_X7_time : mok km_X7_time = true := by decide +kernel
set_option maxRecDepth 100000 in
theorem mw_X7_time : GoodIn lw_tbl (mwd km_X7_time) := goodIn_r _ [382, 384, 4, 385, 18, 150, 148, 386, 387, 388, 389, 22, 150, 441, 442, 443, 18, 444, 445, 446, 447, 22] (by decide +kernel) (by decide +kernel)
set_option maxRecDepth 100000 in
theorem mk_X7_step : mok km_X7_step = true := by decide +kernel
set_option maxRecDepth 100000 in
theorem mw_X7_step : GoodIn lw_tbl (mwd km_X7_step) := goodIn_r _ [382, 384, 4, 385, 18, 150, 148, 386, 387, 388, 389, 22, 150, 148, 441, 442, 443, 18, 452, 453, 454, 455, 22] (by decide +kernel) (by decide +kernel)
set_option maxRecDepth 100000 in
theorem mk_X7_away : mok km_X7_away = true := by decide +kernel
set_option maxRecDepth 100000 in
theorem mw_X7_away : GoodIn lw_tbl (mwd km_X7_away) := goodIn_r _ [382, 384, 4, 385, 18, 150, 148, 386, 387, 388, 389, 22, 150, 148, 441, 442, 443, 18, 470, 471, 472, 473, 22] (by decide +kernel) (by decide +kernel)
set_option maxRecDepth 100000 in
theorem mk_X7_catches : mok km_X7_catches = true := by decide +kernel
set_option maxRecDepth 100000 in
theorem mw_X7_catches : GoodIn lw_tbl (mwd km_X7_catches) := goodIn_r _ [171, 28, 150, 148, 386, 387, 388, 389, 22, 150, 148, 480, 481, 482, 483, 22, 150, 148, 488, 489, 490, 491, 22] (by decide +kernel) (by decide +kernel)
set_option maxRecDepth 100000 in
theorem mk_X7_fallsApart : mok km_X7_fallsApart = true := by decide +kernel
set_option maxRecDepth 100000 in
theorem mw_X7_fallsApart : GoodIn lw_tbl (mwd km_X7_fallsApart) := goodIn_r _ [148, 496, 497, 498, 499, 19] (by decide +kernel) (by decide +kernel)
set_option maxRecDepth 100000 in
theorem mk_X7_rabbit : mok km_X7_rabbit = true := by decide +kernel
set_option maxRecDepth 100000 in
theorem mw_X7_rabbit : GoodIn lw_tbl (mwd km_X7_rabbit) := goodIn_r _ [153] (by decide +kernel) (by decide +kernel)
set_option maxRecDepth 100000 in
theorem mk_X7_hunt : mok km_X7_hunt = true := by decide +kernel
set_option maxRecDepth 100000 in
theorem mw_X7_hunt : GoodIn lw_tbl (mwd km_X7_hunt) := goodIn_r _ [151, 148, 518, 519, 520, 521, 23, 151, 153, 537, 538, 539, 540, 23] (by decide +kernel) (by decide +kernel)
set_option maxRecDepth 100000 in
theorem mk_X7_aim : mok km_X7_aim = true := by decide +kernel
set_option maxRecDepth 100000 in
theorem mw_X7_aim : GoodIn lw_tbl (mwd km_X7_aim) := goodIn_r _ [151, 148, 518, 519, 520, 521, 23, 151, 148, 153, 545, 546, 547, 548, 23] (by decide +kernel) (by decide +kernel)
set_option maxRecDepth 100000 in
theorem mk_X7_forced : mok km_X7_forced = true := by decide +kernel
set_option maxRecDepth 100000 in
theorem mw_X7_forced : GoodIn lw_tbl (mwd km_X7_forced) := goodIn_r _ [554, 556, 16, 557, 18, 148, 559, 560, 561, 24] (by decide +kernel) (by decide +kernel)
set_option maxRecDepth 100000 in
theorem mk_X7_leastBlue : mok km_X7_leastBlue = true := by decide +kernel
set_option maxRecDepth 100000 in
theorem mw_X7_leastBlue : GoodIn lw_tbl (mwd km_X7_leastBlue) := goodIn_r _ [152, 148, 577, 578, 579, 580, 24, 152, 584, 585, 586, 587, 24] (by decide +kernel) (by decide +kernel)
set_option maxRecDepth 100000 in
theorem mk_X7_beginDeeds : mok km_X7_beginDeeds = true := by decide +kernel
set_option maxRecDepth 100000 in
theorem mw_X7_beginDeeds : GoodIn lw_tbl (mwd km_X7_beginDeeds) := goodIn_r _ [149, 261, 262, 263, 264, 21, 148, 144, 145, 146, 147, 19, 153] (by decide +kernel) (by decide +kernel)
set_option maxRecDepth 100000 in
theorem mk_X7_needRoom : mok km_X7_needRoom = true := by decide +kernel
set_option maxRecDepth 100000 in
theorem mw_X7_needRoom : GoodIn lw_tbl (mwd km_X7_needRoom) := goodIn_r _ [148, 273, 274, 275, 276, 19, 277, 30] (by decide +kernel) (by decide +kernel)
set_option maxRecDepth 100000 in
theorem mk_X7_needBeginning : mok km_X7_needBeginning = true := by decide +kernel
set_option maxRecDepth 100000 in
theorem mw_X7_needBeginning : GoodIn lw_tbl (mwd km_X7_needBeginning) := goodIn_r _ [269, 271, 2, 272, 18, 269, 271, 2, 272, 18, 269, 271, 2, 272, 18] (by decide +kernel) (by decide +kernel)
set_option maxRecDepth 100000 in
theorem mk_X7_needSet : mok km_X7_needSet = true := by decide +kernel
set_option maxRecDepth 100000 in
theorem mw_X7_needSet : GoodIn lw_tbl (mwd km_X7_needSet) := goodIn_r _ [148, 144, 145, 146, 147, 19, 171, 28] (by decide +kernel) (by decide +kernel)
set_option maxRecDepth 100000 in
theorem mk_X7_needPlaceForDeed : mok km_X7_needPlaceForDeed = true := by decide +kernel
set_option maxRecDepth 100000 in
theorem mw_X7_needPlaceForDeed : GoodIn lw_tbl (mwd km_X7_needPlaceForDeed) := goodIn_r _ [149, 310, 311, 312, 313, 21, 314, 31] (by decide +kernel) (by decide +kernel)
set_option maxRecDepth 100000 in
theorem mk_X7_placeOf : mok km_X7_placeOf = true := by decide +kernel
set_option maxRecDepth 100000 in
theorem mw_X7_placeOf : GoodIn lw_tbl (mwd km_X7_placeOf) := goodIn_r _ [] (by decide +kernel) (by decide +kernel)
set_option maxRecDepth 100000 in
theorem mk_J6_bitCount_0f7a4 : mok km_J6_bitCount_0f7a4 = true := by decide +kernel
set_option maxRecDepth 100000 in
theorem mw_J6_bitCount_0f7a4 : GoodIn lw_tbl (mwd km_J6_bitCount_0f7a4) := goodIn_r _ [570, 571, 571, 572] (by decide +kernel) (by decide +kernel)
set_option maxRecDepth 100000 in
theorem mk_L_cell : mok km_L_cell = true := by decide +kernel
set_option maxRecDepth 100000 in
theorem mw_L_cell : GoodIn lw_tbl (mwd km_L_cell) := goodIn_r _ [591] (by decide +kernel) (by decide +kernel)
set_option maxRecDepth 100000 in
theorem mk_L_at : mok km_L_at = true := by decide +kernel
set_option maxRecDepth 100000 in
theorem mw_L_at : GoodIn lw_tbl (mwd km_L_at) := goodIn_r _ [] (by decide +kernel) (by decide +kernel)
set_option maxRecDepth 100000 in
theorem mk_L_size : mok km_L_size = true := by decide +kernel
set_option maxRecDepth 100000 in
theorem mw_L_size : GoodIn lw_tbl (mwd km_L_size) := goodIn_r _ [] (by decide +kernel) (by decide +kernel)
set_option maxRecDepth 100000 in
theorem mk_L_law_0 : ∀ q ∈ kq_L_law_0, rok km_L_law q.1 q.2 = true := by decide +kernel
set_option maxRecDepth 100000 in
theorem mk_L_law_1 : ∀ q ∈ kq_L_law_1, rok km_L_law q.1 q.2 = true := by decide +kernel
set_option maxRecDepth 100000 in
theorem mk_L_law_2 : ∀ q ∈ kq_L_law_2, rok km_L_law q.1 q.2 = true := by decide +kernel
set_option maxRecDepth 100000 in
theorem mk_L_law_3 : ∀ q ∈ kq_L_law_3, rok km_L_law q.1 q.2 = true := by decide +kernel
set_option maxRecDepth 100000 in
theorem mk_L_law_4 : ∀ q ∈ kq_L_law_4, rok km_L_law q.1 q.2 = true := by decide +kernel
set_option maxRecDepth 100000 in
theorem mk_L_law_5 : ∀ q ∈ kq_L_law_5, rok km_L_law q.1 q.2 = true := by decide +kernel
set_option maxRecDepth 100000 in
theorem mk_L_law_6 : ∀ q ∈ kq_L_law_6, rok km_L_law q.1 q.2 = true := by decide +kernel
set_option maxRecDepth 100000 in
theorem mk_L_law_7 : ∀ q ∈ kq_L_law_7, rok km_L_law q.1 q.2 = true := by decide +kernel
set_option maxRecDepth 100000 in
theorem mk_L_law_8 : ∀ q ∈ kq_L_law_8, rok km_L_law q.1 q.2 = true := by decide +kernel
set_option maxRecDepth 100000 in
theorem mk_L_law_9 : ∀ q ∈ kq_L_law_9, rok km_L_law q.1 q.2 = true := by decide +kernel
set_option maxRecDepth 100000 in
theorem mk_L_law_10 : ∀ q ∈ kq_L_law_10, rok km_L_law q.1 q.2 = true := by decide +kernel
set_option maxRecDepth 100000 in
theorem mk_L_law_11 : ∀ q ∈ kq_L_law_11, rok km_L_law q.1 q.2 = true := by decide +kernel
set_option maxRecDepth 100000 in
theorem mk_L_law_12 : ∀ q ∈ kq_L_law_12, rok km_L_law q.1 q.2 = true := by decide +kernel
set_option maxRecDepth 100000 in
theorem mk_L_law_13 : ∀ q ∈ kq_L_law_13, rok km_L_law q.1 q.2 = true := by decide +kernel
set_option maxRecDepth 100000 in
theorem mk_L_law_14 : ∀ q ∈ kq_L_law_14, rok km_L_law q.1 q.2 = true := by decide +kernel
set_option maxRecDepth 100000 in
theorem mk_L_law_15 : ∀ q ∈ kq_L_law_15, rok km_L_law q.1 q.2 = true := by decide +kernel
set_option maxRecDepth 100000 in
theorem mk_L_law_16 : ∀ q ∈ kq_L_law_16, rok km_L_law q.1 q.2 = true := by decide +kernel
set_option maxRecDepth 100000 in
theorem mk_L_law_17 : ∀ q ∈ kq_L_law_17, rok km_L_law q.1 q.2 = true := by decide +kernel
set_option maxRecDepth 100000 in
theorem mk_L_law_18 : ∀ q ∈ kq_L_law_18, rok km_L_law q.1 q.2 = true := by decide +kernel
set_option maxRecDepth 100000 in
theorem mk_L_law_19 : ∀ q ∈ kq_L_law_19, rok km_L_law q.1 q.2 = true := by decide +kernel
set_option maxRecDepth 100000 in
theorem mk_L_law_20 : ∀ q ∈ kq_L_law_20, rok km_L_law q.1 q.2 = true := by decide +kernel
set_option maxRecDepth 100000 in
theorem mk_L_law_21 : ∀ q ∈ kq_L_law_21, rok km_L_law q.1 q.2 = true := by decide +kernel
set_option maxRecDepth 100000 in
theorem mk_L_law_22 : ∀ q ∈ kq_L_law_22, rok km_L_law q.1 q.2 = true := by decide +kernel
set_option maxRecDepth 100000 in
theorem mk_L_law_23 : ∀ q ∈ kq_L_law_23, rok km_L_law q.1 q.2 = true := by decide +kernel
set_option maxRecDepth 100000 in
theorem mk_L_law_24 : ∀ q ∈ kq_L_law_24, rok km_L_law q.1 q.2 = true := by decide +kernel
set_option maxRecDepth 100000 in
theorem mk_L_law_25 : ∀ q ∈ kq_L_law_25, rok km_L_law q.1 q.2 = true := by decide +kernel
set_option maxRecDepth 100000 in
theorem mk_L_law_26 : ∀ q ∈ kq_L_law_26, rok km_L_law q.1 q.2 = true := by decide +kernel
set_option maxRecDepth 100000 in
theorem mk_L_law_27 : ∀ q ∈ kq_L_law_27, rok km_L_law q.1 q.2 = true := by decide +kernel
set_option maxRecDepth 100000 in
theorem mk_L_law_28 : ∀ q ∈ kq_L_law_28, rok km_L_law q.1 q.2 = true := by decide +kernel
set_option maxRecDepth 100000 in
theorem mk_L_law_29 : ∀ q ∈ kq_L_law_29, rok km_L_law q.1 q.2 = true := by decide +kernel
set_option maxRecDepth 100000 in
theorem mk_L_law_30 : ∀ q ∈ kq_L_law_30, rok km_L_law q.1 q.2 = true := by decide +kernel
set_option maxRecDepth 100000 in
theorem mk_L_law_31 : ∀ q ∈ kq_L_law_31, rok km_L_law q.1 q.2 = true := by decide +kernel
set_option maxRecDepth 100000 in
theorem mk_L_law_32 : ∀ q ∈ kq_L_law_32, rok km_L_law q.1 q.2 = true := by decide +kernel
set_option maxRecDepth 100000 in
theorem mk_L_law_33 : ∀ q ∈ kq_L_law_33, rok km_L_law q.1 q.2 = true := by decide +kernel
set_option maxRecDepth 100000 in
theorem mk_L_law_34 : ∀ q ∈ kq_L_law_34, rok km_L_law q.1 q.2 = true := by decide +kernel
set_option maxRecDepth 100000 in
theorem mk_L_law_35 : ∀ q ∈ kq_L_law_35, rok km_L_law q.1 q.2 = true := by decide +kernel
set_option maxRecDepth 100000 in
theorem mk_L_law_36 : ∀ q ∈ kq_L_law_36, rok km_L_law q.1 q.2 = true := by decide +kernel
set_option maxRecDepth 100000 in
theorem mk_L_law_37 : ∀ q ∈ kq_L_law_37, rok km_L_law q.1 q.2 = true := by decide +kernel
set_option maxRecDepth 100000 in
theorem mk_L_law_38 : ∀ q ∈ kq_L_law_38, rok km_L_law q.1 q.2 = true := by decide +kernel
set_option maxRecDepth 100000 in
theorem mk_L_law_39 : ∀ q ∈ kq_L_law_39, rok km_L_law q.1 q.2 = true := by decide +kernel
set_option maxRecDepth 100000 in
theorem mk_L_law_40 : ∀ q ∈ kq_L_law_40, rok km_L_law q.1 q.2 = true := by decide +kernel
set_option maxRecDepth 100000 in
theorem mk_L_law_41 : ∀ q ∈ kq_L_law_41, rok km_L_law q.1 q.2 = true := by decide +kernel
set_option maxRecDepth 100000 in
theorem mk_L_law_42 : ∀ q ∈ kq_L_law_42, rok km_L_law q.1 q.2 = true := by decide +kernel
set_option maxRecDepth 100000 in
theorem mk_L_law_43 : ∀ q ∈ kq_L_law_43, rok km_L_law q.1 q.2 = true := by decide +kernel
set_option maxRecDepth 100000 in
theorem mk_L_law_44 : ∀ q ∈ kq_L_law_44, rok km_L_law q.1 q.2 = true := by decide +kernel
theorem mkr_L_law : ∀ l ∈ kc_L_law, ∀ q ∈ l, rok km_L_law q.1 q.2 = true := (List.forall_mem_cons.mpr ⟨mk_L_law_0, (List.forall_mem_cons.mpr ⟨mk_L_law_1, (List.forall_mem_cons.mpr ⟨mk_L_law_2, (List.forall_mem_cons.mpr ⟨mk_L_law_3, (List.forall_mem_cons.mpr ⟨mk_L_law_4, (List.forall_mem_cons.mpr ⟨mk_L_law_5, (List.forall_mem_cons.mpr ⟨mk_L_law_6, (List.forall_mem_cons.mpr ⟨mk_L_law_7, (List.forall_mem_cons.mpr ⟨mk_L_law_8, (List.forall_mem_cons.mpr ⟨mk_L_law_9, (List.forall_mem_cons.mpr ⟨mk_L_law_10, (List.forall_mem_cons.mpr ⟨mk_L_law_11, (List.forall_mem_cons.mpr ⟨mk_L_law_12, (List.forall_mem_cons.mpr ⟨mk_L_law_13, (List.forall_mem_cons.mpr ⟨mk_L_law_14, (List.forall_mem_cons.mpr ⟨mk_L_law_15, (List.forall_mem_cons.mpr ⟨mk_L_law_16, (List.forall_mem_cons.mpr ⟨mk_L_law_17, (List.forall_mem_cons.mpr ⟨mk_L_law_18, (List.forall_mem_cons.mpr ⟨mk_L_law_19, (List.forall_mem_cons.mpr ⟨mk_L_law_20, (List.forall_mem_cons.mpr ⟨mk_L_law_21, (List.forall_mem_cons.mpr ⟨mk_L_law_22, (List.forall_mem_cons.mpr ⟨mk_L_law_23, (List.forall_mem_cons.mpr ⟨mk_L_law_24, (List.forall_mem_cons.mpr ⟨mk_L_law_25, (List.forall_mem_cons.mpr ⟨mk_L_law_26, (List.forall_mem_cons.mpr ⟨mk_L_law_27, (List.forall_mem_cons.mpr ⟨mk_L_law_28, (List.forall_mem_cons.mpr ⟨mk_L_law_29, (List.forall_mem_cons.mpr ⟨mk_L_law_30, (List.forall_mem_cons.mpr ⟨mk_L_law_31, (List.forall_mem_cons.mpr ⟨mk_L_law_32, (List.forall_mem_cons.mpr ⟨mk_L_law_33, (List.forall_mem_cons.mpr ⟨mk_L_law_34, (List.forall_mem_cons.mpr ⟨mk_L_law_35, (List.forall_mem_cons.mpr ⟨mk_L_law_36, (List.forall_mem_cons.mpr ⟨mk_L_law_37, (List.forall_mem_cons.mpr ⟨mk_L_law_38, (List.forall_mem_cons.mpr ⟨mk_L_law_39, (List.forall_mem_cons.mpr ⟨mk_L_law_40, (List.forall_mem_cons.mpr ⟨mk_L_law_41, (List.forall_mem_cons.mpr ⟨mk_L_law_42, (List.forall_mem_cons.mpr ⟨mk_L_law_43, (List.forall_mem_cons.mpr ⟨mk_L_law_44, (fun _ h => absurd h List.not_mem_nil)⟩)⟩)⟩)⟩)⟩)⟩)⟩)⟩)⟩)⟩)⟩)⟩)⟩)⟩)⟩)⟩)⟩)⟩)⟩)⟩)⟩)⟩)⟩)⟩)⟩)⟩)⟩)⟩)⟩)⟩)⟩)⟩)⟩)⟩)⟩)⟩)⟩)⟩)⟩)⟩)⟩)⟩)⟩)⟩)⟩)
theorem mk_L_law : mok km_L_law = true := mok_of mkr_L_law (by decide +kernel)
set_option maxRecDepth 100000 in
theorem mw_L_law : GoodIn lw_tbl (mwd km_L_law) := goodIn_r _ [33, 34, 18, 35, 36, 37, 18, 588, 589, 590, 17, 598, 592, 593, 594, 17, 167, 168, 169, 170, 18, 588, 589, 590, 17, 598, 592, 593, 594, 17, 592, 593, 594, 17, 592, 593, 594, 17, 265, 266, 267, 268, 18, 592, 593, 594, 17, 592, 593, 594, 17, 592, 593, 594, 17, 378, 379, 380, 381, 18, 378, 379, 380, 381, 18, 378, 379, 380, 381, 18, 448, 449, 450, 451, 18, 466, 467, 468, 469, 18, 378, 379, 380, 381, 18, 448, 449, 450, 451, 18, 448, 449, 450, 451, 18, 466, 467, 468, 469, 18, 378, 379, 380, 381, 18, 475, 476, 477, 478, 18, 492, 493, 494, 495, 18, 475, 476, 477, 478, 18, 475, 476, 477, 478, 18, 514, 515, 516, 517, 18, 510, 511, 512, 513, 18, 541, 542, 543, 544, 18, 343, 344, 345, 346, 18, 514, 515, 516, 517, 18, 510, 511, 512, 513, 18, 541, 542, 543, 544, 18, 356, 357, 358, 359, 18, 514, 515, 516, 517, 18, 573, 574, 575, 576, 18, 550, 551, 552, 553, 18, 595, 596, 597, 17, 595, 596, 597, 17, 595, 596, 597, 17, 588, 589, 590, 17, 598, 592, 593, 594, 17, 550, 551, 552, 553, 18] (by decide +kernel) (by decide +kernel)
end
