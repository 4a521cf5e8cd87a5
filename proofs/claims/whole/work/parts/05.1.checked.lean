section
set_option maxRecDepth 100000 in
theorem mk_X3_count : mok km_X3_count = true := by decide +kernel
set_option maxRecDepth 100000 in
theorem mw_X3_count : GoodIn lw_tbl (mwd km_X3_count) := goodIn_r _ [101] (by decide +kernel) (by decide +kernel)
set_option maxRecDepth 100000 in
theorem mk_X3_forget : mok km_X3_forget = true := by decide +kernel
set_option maxRecDepth 100000 in
theorem mw_X3_forget : GoodIn lw_tbl (mwd km_X3_forget) := goodIn_r _ [101] (by decide +kernel) (by decide +kernel)
set_option maxRecDepth 100000 in
theorem mk_X3_add : mok km_X3_add = true := by decide +kernel
set_option maxRecDepth 100000 in
theorem mw_X3_add : GoodIn lw_tbl (mwd km_X3_add) := goodIn_r _ [101, 98, 101, 495, 254, 255, 256, 40, 99, 101, 495, 254, 255, 256, 40, 100, 101, 495, 254, 255, 256, 40, 101, 101] (by decide +kernel) (by decide +kernel)
set_option maxRecDepth 100000 in
theorem mk_X3_latestRoom : mok km_X3_latestRoom = true := by decide +kernel
set_option maxRecDepth 100000 in
theorem mw_X3_latestRoom : GoodIn lw_tbl (mwd km_X3_latestRoom) := goodIn_r _ [98, 101, 522, 202, 203, 204, 40] (by decide +kernel) (by decide +kernel)
set_option maxRecDepth 100000 in
theorem mk_X3_latestOther : mok km_X3_latestOther = true := by decide +kernel
set_option maxRecDepth 100000 in
theorem mw_X3_latestOther : GoodIn lw_tbl (mwd km_X3_latestOther) := goodIn_r _ [99, 101, 522, 202, 203, 204, 40] (by decide +kernel) (by decide +kernel)
set_option maxRecDepth 100000 in
theorem mk_X3_latestSet : mok km_X3_latestSet = true := by decide +kernel
set_option maxRecDepth 100000 in
theorem mw_X3_latestSet : GoodIn lw_tbl (mwd km_X3_latestSet) := goodIn_r _ [100, 101, 522, 202, 203, 204, 40] (by decide +kernel) (by decide +kernel)
set_option maxRecDepth 100000 in
theorem mk_X3_dropLatest : mok km_X3_dropLatest = true := by decide +kernel
set_option maxRecDepth 100000 in
theorem mw_X3_dropLatest : GoodIn lw_tbl (mwd km_X3_dropLatest) := goodIn_r _ [101, 101, 101] (by decide +kernel) (by decide +kernel)
set_option maxRecDepth 100000 in
theorem mk_X4_init : mok km_X4_init = true := by decide +kernel
set_option maxRecDepth 100000 in
theorem mw_X4_init : GoodIn lw_tbl (mwd km_X4_init) := goodIn_r _ [68, 61, 62, 69, 70, 40, 71, 72, 73, 40, 80, 81, 82] (by decide +kernel) (by decide +kernel)
set_option maxRecDepth 100000 in
theorem mk_X4_begin : mok km_X4_begin = true := by decide +kernel
set_option maxRecDepth 100000 in
theorem mw_X4_begin : GoodIn lw_tbl (mwd km_X4_begin) := goodIn_r _ [391, 392, 393, 50, 394, 395, 396, 50, 81, 80, 397, 258, 259, 260, 40, 82, 82] (by decide +kernel) (by decide +kernel)
set_option maxRecDepth 100000 in
theorem mk_X4_beginFamily : mok km_X4_beginFamily = true := by decide +kernel
set_option maxRecDepth 100000 in
theorem mw_X4_beginFamily : GoodIn lw_tbl (mwd km_X4_beginFamily) := goodIn_r _ [81, 435, 388, 389, 390, 39, 81, 81, 436, 438, 6, 439, 39, 440, 441, 442, 443, 39] (by decide +kernel) (by decide +kernel)
set_option maxRecDepth 100000 in
theorem mk_X4_familyHasDoor : mok km_X4_familyHasDoor = true := by decide +kernel
set_option maxRecDepth 100000 in
theorem mw_X4_familyHasDoor : GoodIn lw_tbl (mwd km_X4_familyHasDoor) := goodIn_r _ [81] (by decide +kernel) (by decide +kernel)
set_option maxRecDepth 100000 in
theorem mk_X4_size : mok km_X4_size = true := by decide +kernel
set_option maxRecDepth 100000 in
theorem mw_X4_size : GoodIn lw_tbl (mwd km_X4_size) := goodIn_r _ [81] (by decide +kernel) (by decide +kernel)
set_option maxRecDepth 100000 in
theorem mk_X4_version : mok km_X4_version = true := by decide +kernel
set_option maxRecDepth 100000 in
theorem mw_X4_version : GoodIn lw_tbl (mwd km_X4_version) := goodIn_r _ [82] (by decide +kernel) (by decide +kernel)
set_option maxRecDepth 100000 in
theorem mk_X4_has : mok km_X4_has = true := by decide +kernel
set_option maxRecDepth 100000 in
theorem mw_X4_has : GoodIn lw_tbl (mwd km_X4_has) := goodIn_r _ [81] (by decide +kernel) (by decide +kernel)
set_option maxRecDepth 100000 in
theorem mk_X4_all : mok km_X4_all = true := by decide +kernel
set_option maxRecDepth 100000 in
theorem mw_X4_all : GoodIn lw_tbl (mwd km_X4_all) := goodIn_r _ [81] (by decide +kernel) (by decide +kernel)
set_option maxRecDepth 100000 in
theorem mk_X4_nextTo : mok km_X4_nextTo = true := by decide +kernel
set_option maxRecDepth 100000 in
theorem mw_X4_nextTo : GoodIn lw_tbl (mwd km_X4_nextTo) := goodIn_r _ [80, 201, 202, 203, 204, 40] (by decide +kernel) (by decide +kernel)
set_option maxRecDepth 100000 in
theorem mk_X4_hasDoor : mok km_X4_hasDoor = true := by decide +kernel
set_option maxRecDepth 100000 in
theorem mw_X4_hasDoor : GoodIn lw_tbl (mwd km_X4_hasDoor) := goodIn_r _ [197, 198, 199, 200, 39] (by decide +kernel) (by decide +kernel)
set_option maxRecDepth 100000 in
theorem mk_X4_turnDoor : mok km_X4_turnDoor = true := by decide +kernel
set_option maxRecDepth 100000 in
theorem mw_X4_turnDoor : GoodIn lw_tbl (mwd km_X4_turnDoor) := goodIn_r _ [80, 197, 198, 199, 200, 39, 444, 254, 255, 256, 40, 80, 197, 198, 199, 200, 39, 444, 254, 255, 256, 40, 82, 82] (by decide +kernel) (by decide +kernel)
set_option maxRecDepth 100000 in
theorem mk_X4_countDoors : mok km_X4_countDoors = true := by decide +kernel
set_option maxRecDepth 100000 in
theorem mw_X4_countDoors : GoodIn lw_tbl (mwd km_X4_countDoors) := goodIn_r _ [81, 197, 198, 199, 200, 39, 205, 206, 207, 52] (by decide +kernel) (by decide +kernel)
set_option maxRecDepth 100000 in
theorem mk_X4_isPlace : mok km_X4_isPlace = true := by decide +kernel
set_option maxRecDepth 100000 in
theorem mw_X4_isPlace : GoodIn lw_tbl (mwd km_X4_isPlace) := goodIn_r _ [569, 458, 459, 460, 39] (by decide +kernel) (by decide +kernel)
set_option maxRecDepth 100000 in
theorem mk_X4_nearTo : mok km_X4_nearTo = true := by decide +kernel
set_option maxRecDepth 100000 in
theorem mw_X4_nearTo : GoodIn lw_tbl (mwd km_X4_nearTo) := goodIn_r _ [80, 201, 202, 203, 204, 40] (by decide +kernel) (by decide +kernel)
set_option maxRecDepth 100000 in
theorem mk_X4_areNear : mok km_X4_areNear = true := by decide +kernel
set_option maxRecDepth 100000 in
theorem mw_X4_areNear : GoodIn lw_tbl (mwd km_X4_areNear) := goodIn_r _ [80, 201, 202, 203, 204, 40] (by decide +kernel) (by decide +kernel)
set_option maxRecDepth 100000 in
theorem mk_X4_nextToSome : mok km_X4_nextToSome = true := by decide +kernel
set_option maxRecDepth 100000 in
theorem mw_X4_nextToSome : GoodIn lw_tbl (mwd km_X4_nextToSome) := goodIn_r _ [81, 197, 198, 199, 200, 39] (by decide +kernel) (by decide +kernel)
set_option maxRecDepth 100000 in
theorem mk_X4_afterShot : mok km_X4_afterShot = true := by decide +kernel
set_option maxRecDepth 100000 in
theorem mw_X4_afterShot : GoodIn lw_tbl (mwd km_X4_afterShot) := goodIn_r _ [509, 250, 251, 252, 39] (by decide +kernel) (by decide +kernel)
set_option maxRecDepth 100000 in
theorem mk_X4_losesAllCorners : mok km_X4_losesAllCorners = true := by decide +kernel
set_option maxRecDepth 100000 in
theorem mw_X4_losesAllCorners : GoodIn lw_tbl (mwd km_X4_losesAllCorners) := goodIn_r _ [219, 167, 168, 169, 39, 81, 220, 222, 0, 223, 39] (by decide +kernel) (by decide +kernel)
set_option maxRecDepth 100000 in
theorem mk_X4_lowestCorner : mok km_X4_lowestCorner = true := by decide +kernel
set_option maxRecDepth 100000 in
theorem mw_X4_lowestCorner : GoodIn lw_tbl (mwd km_X4_lowestCorner) := goodIn_r _ [81, 224, 226, 1, 227, 39] (by decide +kernel) (by decide +kernel)
set_option maxRecDepth 100000 in
theorem mk_X4_isCorner : mok km_X4_isCorner = true := by decide +kernel
set_option maxRecDepth 100000 in
theorem mw_X4_isCorner : GoodIn lw_tbl (mwd km_X4_isCorner) := goodIn_r _ [228, 229, 230, 231, 39, 81, 228, 229, 230, 231, 39] (by decide +kernel) (by decide +kernel)
set_option maxRecDepth 100000 in
theorem mk_X5_fewestMoves : mok km_X5_fewestMoves = true := by decide +kernel
set_option maxRecDepth 100000 in
theorem mw_X5_fewestMoves : GoodIn lw_tbl (mwd km_X5_fewestMoves) := goodIn_r _ [621, 622, 623, 54] (by decide +kernel) (by decide +kernel)
set_option maxRecDepth 100000 in
theorem mk_X5_copsCatch : mok km_X5_copsCatch = true := by decide +kernel
set_option maxRecDepth 100000 in
theorem mw_X5_copsCatch : GoodIn lw_tbl (mwd km_X5_copsCatch) := goodIn_r _ [624, 596, 597, 598, 39, 624, 596, 597, 598, 39, 625, 626, 627, 54] (by decide +kernel) (by decide +kernel)
set_option maxRecDepth 100000 in
theorem mk_X5_someMoveCatches : mok km_X5_someMoveCatches = true := by decide +kernel
set_option maxRecDepth 100000 in
theorem mw_X5_someMoveCatches : GoodIn lw_tbl (mwd km_X5_someMoveCatches) := goodIn_r _ [628, 271, 272, 273, 39, 624, 596, 597, 598, 39, 624, 596, 597, 598, 39, 629, 630, 631, 54] (by decide +kernel) (by decide +kernel)
set_option maxRecDepth 100000 in
theorem mk_X5_robberIsLost : mok km_X5_robberIsLost = true := by decide +kernel
set_option maxRecDepth 100000 in
theorem mw_X5_robberIsLost : GoodIn lw_tbl (mwd km_X5_robberIsLost) := goodIn_r _ [628, 271, 272, 273, 39, 624, 596, 597, 598, 39, 621, 622, 623, 54] (by decide +kernel) (by decide +kernel)
set_option maxRecDepth 100000 in
theorem mk_X5_fewestShots : mok km_X5_fewestShots = true := by decide +kernel
set_option maxRecDepth 100000 in
theorem mw_X5_fewestShots : GoodIn lw_tbl (mwd km_X5_fewestShots) := goodIn_r _ [696, 697, 698, 54] (by decide +kernel) (by decide +kernel)
set_option maxRecDepth 100000 in
theorem mk_X5_shotsHit : mok km_X5_shotsHit = true := by decide +kernel
set_option maxRecDepth 100000 in
theorem mw_X5_shotsHit : GoodIn lw_tbl (mwd km_X5_shotsHit) := goodIn_r _ [628, 271, 272, 273, 39, 699, 506, 507, 508, 39, 696, 697, 698, 54] (by decide +kernel) (by decide +kernel)
set_option maxRecDepth 100000 in
theorem mk_X6_init : mok km_X6_init = true := by decide +kernel
set_option maxRecDepth 100000 in
theorem mw_X6_init : GoodIn lw_tbl (mwd km_X6_init) := goodIn_r _ [74, 61, 62, 79, 75] (by decide +kernel) (by decide +kernel)
set_option maxRecDepth 100000 in
theorem mk_X6_at : mok km_X6_at = true := by decide +kernel
set_option maxRecDepth 100000 in
theorem mw_X6_at : GoodIn lw_tbl (mwd km_X6_at) := goodIn_r _ [75, 75] (by decide +kernel) (by decide +kernel)
set_option maxRecDepth 100000 in
theorem mk_X6_put : mok km_X6_put = true := by decide +kernel
set_option maxRecDepth 100000 in
theorem mw_X6_put : GoodIn lw_tbl (mwd km_X6_put) := goodIn_r _ [75, 75] (by decide +kernel) (by decide +kernel)
set_option maxRecDepth 100000 in
theorem mk_X6_putAll : mok km_X6_putAll = true := by decide +kernel
set_option maxRecDepth 100000 in
theorem mw_X6_putAll : GoodIn lw_tbl (mwd km_X6_putAll) := goodIn_r _ [75, 75] (by decide +kernel) (by decide +kernel)
set_option maxRecDepth 100000 in
theorem mk_X7_init : mok km_X7_init = true := by decide +kernel
set_option maxRecDepth 100000 in
theorem mw_X7_init : GoodIn lw_tbl (mwd km_X7_init) := goodIn_r _ [60, 61, 62, 63, 64, 39, 65, 66, 67, 39, 170, 90, 91, 41, 92, 93, 94, 41, 171, 111, 112, 42, 113, 114, 115, 42, 172, 135, 136, 43, 137, 138, 139, 43, 173, 153, 154, 44, 155, 156, 157, 44, 174, 170, 166, 167, 168, 169, 39, 175] (by decide +kernel) (by decide +kernel)
set_option maxRecDepth 100000 in
theorem mk_X7_rooms : mok km_X7_rooms = true := by decide +kernel
set_option maxRecDepth 100000 in
theorem mw_X7_rooms : GoodIn lw_tbl (mwd km_X7_rooms) := goodIn_r _ [318, 49, 170, 386, 271, 272, 273, 39, 170, 387, 388, 389, 390, 39, 398, 400, 5, 401, 38] (by decide +kernel) (by decide +kernel)
set_option maxRecDepth 100000 in
theorem mk_X7_family : mok km_X7_family = true := by decide +kernel
set_option maxRecDepth 100000 in
theorem mw_X7_family : GoodIn lw_tbl (mwd km_X7_family) := goodIn_r _ [318, 49, 170, 386, 271, 272, 273, 39, 415, 51, 170, 431, 432, 433, 434, 39, 398, 400, 5, 401, 38, 170, 193, 194, 195, 196, 39] (by decide +kernel) (by decide +kernel)
set_option maxRecDepth 100000 in
theorem mk_X7_door : mok km_X7_door = true := by decide +kernel
set_option maxRecDepth 100000 in
theorem mw_X7_door : GoodIn lw_tbl (mwd km_X7_door) := goodIn_r _ [453, 455, 7, 456, 38, 453, 455, 7, 456, 38, 318, 49, 170, 478, 479, 480, 481, 39, 482, 484, 8, 485, 38, 171, 175, 491, 492, 493, 494, 41, 170, 496, 441, 442, 443, 39, 170, 166, 167, 168, 169, 39, 175] (by decide +kernel) (by decide +kernel)
set_option maxRecDepth 100000 in
theorem mk_X7_shoot : mok km_X7_shoot = true := by decide +kernel
set_option maxRecDepth 100000 in
theorem mw_X7_shoot : GoodIn lw_tbl (mwd km_X7_shoot) := goodIn_r _ [453, 455, 7, 456, 38, 175, 415, 51, 482, 484, 8, 485, 38, 171, 175, 491, 492, 493, 494, 41, 170, 175, 505, 506, 507, 508, 39, 175, 175] (by decide +kernel) (by decide +kernel)
set_option maxRecDepth 100000 in
theorem mk_X7_back : mok km_X7_back = true := by decide +kernel
set_option maxRecDepth 100000 in
theorem mw_X7_back : GoodIn lw_tbl (mwd km_X7_back) := goodIn_r _ [171, 486, 487, 488, 489, 41, 415, 51, 171, 518, 519, 520, 521, 41, 170, 171, 523, 524, 525, 526, 41, 496, 441, 442, 443, 39, 171, 527, 528, 529, 530, 41, 175, 171, 531, 532, 533, 534, 41, 171, 486, 487, 488, 489, 41] (by decide +kernel) (by decide +kernel)
set_option maxRecDepth 100000 in
theorem mk_X7_doors : mok km_X7_doors = true := by decide +kernel
set_option maxRecDepth 100000 in
theorem mw_X7_doors : GoodIn lw_tbl (mwd km_X7_doors) := goodIn_r _ [170, 193, 194, 195, 196, 39] (by decide +kernel) (by decide +kernel)
set_option maxRecDepth 100000 in
theorem mk_X7_next : mok km_X7_next = true := by decide +kernel
set_option maxRecDepth 100000 in
theorem mw_X7_next : GoodIn lw_tbl (mwd km_X7_next) := goodIn_r _ [453, 455, 7, 456, 38, 170, 542, 198, 199, 200, 39] (by decide +kernel) (by decide +kernel)
set_option maxRecDepth 100000 in
theorem mk_X7_time : mok km_X7_time = true := by decide +kernel
set_option maxRecDepth 100000 in
theorem mw_X7_time : GoodIn lw_tbl (mwd km_X7_time) := goodIn_r _ [550, 552, 9, 553, 38, 172, 170, 554, 555, 556, 557, 42, 172, 603, 604, 605, 38, 606, 607, 608, 609, 42] (by decide +kernel) (by decide +kernel)
end
