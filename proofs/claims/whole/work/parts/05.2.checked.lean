section
set_option maxRecDepth 100000 in
theorem mk_X7_timeAnew : mok km_X7_timeAnew = true := by decide +kernel
set_option maxRecDepth 100000 in
theorem mw_X7_timeAnew : GoodIn lw_tbl (mwd km_X7_timeAnew) := goodIn_r _ [550, 552, 9, 553, 38, 318, 49, 170, 603, 604, 605, 38, 618, 619, 620, 54] (by decide +kernel) (by decide +kernel)
set_option maxRecDepth 100000 in
theorem mk_X7_step : mok km_X7_step = true := by decide +kernel
set_option maxRecDepth 100000 in
theorem mw_X7_step : GoodIn lw_tbl (mwd km_X7_step) := goodIn_r _ [550, 552, 9, 553, 38, 172, 170, 554, 555, 556, 557, 42, 172, 170, 603, 604, 605, 38, 639, 640, 641, 642, 42] (by decide +kernel) (by decide +kernel)
set_option maxRecDepth 100000 in
theorem mk_X7_away : mok km_X7_away = true := by decide +kernel
set_option maxRecDepth 100000 in
theorem mw_X7_away : GoodIn lw_tbl (mwd km_X7_away) := goodIn_r _ [550, 552, 9, 553, 38, 172, 170, 554, 555, 556, 557, 42, 172, 170, 603, 604, 605, 38, 660, 661, 662, 663, 42] (by decide +kernel) (by decide +kernel)
set_option maxRecDepth 100000 in
theorem mk_X7_catches : mok km_X7_catches = true := by decide +kernel
set_option maxRecDepth 100000 in
theorem mw_X7_catches : GoodIn lw_tbl (mwd km_X7_catches) := goodIn_r _ [318, 49, 172, 170, 554, 555, 556, 557, 42, 172, 170, 673, 674, 675, 676, 42, 172, 170, 681, 682, 683, 684, 42] (by decide +kernel) (by decide +kernel)
set_option maxRecDepth 100000 in
theorem mk_X7_fallsApart : mok km_X7_fallsApart = true := by decide +kernel
set_option maxRecDepth 100000 in
theorem mw_X7_fallsApart : GoodIn lw_tbl (mwd km_X7_fallsApart) := goodIn_r _ [170, 215, 216, 217, 218, 39] (by decide +kernel) (by decide +kernel)
set_option maxRecDepth 100000 in
theorem mk_X7_rabbit : mok km_X7_rabbit = true := by decide +kernel
set_option maxRecDepth 100000 in
theorem mw_X7_rabbit : GoodIn lw_tbl (mwd km_X7_rabbit) := goodIn_r _ [175] (by decide +kernel) (by decide +kernel)
set_option maxRecDepth 100000 in
theorem mk_X7_hunt : mok km_X7_hunt = true := by decide +kernel
set_option maxRecDepth 100000 in
theorem mw_X7_hunt : GoodIn lw_tbl (mwd km_X7_hunt) := goodIn_r _ [173, 170, 240, 241, 242, 243, 43, 173, 175, 274, 275, 276, 277, 43] (by decide +kernel) (by decide +kernel)
set_option maxRecDepth 100000 in
theorem mk_X7_huntAnew : mok km_X7_huntAnew = true := by decide +kernel
set_option maxRecDepth 100000 in
theorem mw_X7_huntAnew : GoodIn lw_tbl (mwd km_X7_huntAnew) := goodIn_r _ [318, 49, 170, 175, 693, 694, 695, 54] (by decide +kernel) (by decide +kernel)
set_option maxRecDepth 100000 in
theorem mk_X7_aim : mok km_X7_aim = true := by decide +kernel
set_option maxRecDepth 100000 in
theorem mw_X7_aim : GoodIn lw_tbl (mwd km_X7_aim) := goodIn_r _ [173, 170, 240, 241, 242, 243, 43, 173, 170, 175, 282, 283, 284, 285, 43] (by decide +kernel) (by decide +kernel)
set_option maxRecDepth 100000 in
theorem mk_X7_forced : mok km_X7_forced = true := by decide +kernel
set_option maxRecDepth 100000 in
theorem mw_X7_forced : GoodIn lw_tbl (mwd km_X7_forced) := goodIn_r _ [707, 709, 17, 710, 38, 170, 712, 299, 300, 44] (by decide +kernel) (by decide +kernel)
set_option maxRecDepth 100000 in
theorem mk_X7_rounds : mok km_X7_rounds = true := by decide +kernel
set_option maxRecDepth 100000 in
theorem mw_X7_rounds : GoodIn lw_tbl (mwd km_X7_rounds) := goodIn_r _ [707, 709, 17, 710, 38, 170, 720, 721, 722, 44] (by decide +kernel) (by decide +kernel)
set_option maxRecDepth 100000 in
theorem mk_X7_leastBlue : mok km_X7_leastBlue = true := by decide +kernel
set_option maxRecDepth 100000 in
theorem mw_X7_leastBlue : GoodIn lw_tbl (mwd km_X7_leastBlue) := goodIn_r _ [174, 170, 291, 292, 293, 294, 44, 174, 306, 307, 308, 309, 44] (by decide +kernel) (by decide +kernel)
set_option maxRecDepth 100000 in
theorem mk_X7_beginDeeds : mok km_X7_beginDeeds = true := by decide +kernel
set_option maxRecDepth 100000 in
theorem mw_X7_beginDeeds : GoodIn lw_tbl (mwd km_X7_beginDeeds) := goodIn_r _ [171, 402, 403, 404, 405, 41, 170, 166, 167, 168, 169, 39, 175] (by decide +kernel) (by decide +kernel)
set_option maxRecDepth 100000 in
theorem mk_X7_needRoom : mok km_X7_needRoom = true := by decide +kernel
set_option maxRecDepth 100000 in
theorem mw_X7_needRoom : GoodIn lw_tbl (mwd km_X7_needRoom) := goodIn_r _ [170, 457, 458, 459, 460, 39, 461, 53] (by decide +kernel) (by decide +kernel)
set_option maxRecDepth 100000 in
theorem mk_X7_needBeginning : mok km_X7_needBeginning = true := by decide +kernel
set_option maxRecDepth 100000 in
theorem mw_X7_needBeginning : GoodIn lw_tbl (mwd km_X7_needBeginning) := goodIn_r _ [453, 455, 7, 456, 38, 453, 455, 7, 456, 38, 453, 455, 7, 456, 38] (by decide +kernel) (by decide +kernel)
set_option maxRecDepth 100000 in
theorem mk_X7_needSet : mok km_X7_needSet = true := by decide +kernel
set_option maxRecDepth 100000 in
theorem mw_X7_needSet : GoodIn lw_tbl (mwd km_X7_needSet) := goodIn_r _ [170, 166, 167, 168, 169, 39, 318, 49] (by decide +kernel) (by decide +kernel)
set_option maxRecDepth 100000 in
theorem mk_X7_needPlaceForDeed : mok km_X7_needPlaceForDeed = true := by decide +kernel
set_option maxRecDepth 100000 in
theorem mw_X7_needPlaceForDeed : GoodIn lw_tbl (mwd km_X7_needPlaceForDeed) := goodIn_r _ [171, 486, 487, 488, 489, 41, 415, 51] (by decide +kernel) (by decide +kernel)
set_option maxRecDepth 100000 in
theorem mk_X7_placeOf : mok km_X7_placeOf = true := by decide +kernel
set_option maxRecDepth 100000 in
theorem mw_X7_placeOf : GoodIn lw_tbl (mwd km_X7_placeOf) := goodIn_r _ [] (by decide +kernel) (by decide +kernel)
set_option maxRecDepth 100000 in
theorem mk_X8_init : mok km_X8_init = true := by decide +kernel
set_option maxRecDepth 100000 in
theorem mw_X8_init : GoodIn lw_tbl (mwd km_X8_init) := goodIn_r _ [728, 61, 62, 730, 79, 731, 732, 79, 734, 79, 735, 79, 736, 79, 737, 79, 738, 79, 739, 79, 740, 79, 741] (by decide +kernel) (by decide +kernel)
set_option maxRecDepth 100000 in
theorem mk_X8_thrown : mok km_X8_thrown = true := by decide +kernel
set_option maxRecDepth 100000 in
theorem mw_X8_thrown : GoodIn lw_tbl (mwd km_X8_thrown) := goodIn_r _ [729] (by decide +kernel) (by decide +kernel)
set_option maxRecDepth 100000 in
theorem mk_X8_stop : mok km_X8_stop = true := by decide +kernel
set_option maxRecDepth 100000 in
theorem mw_X8_stop : GoodIn lw_tbl (mwd km_X8_stop) := goodIn_r _ [729] (by decide +kernel) (by decide +kernel)
set_option maxRecDepth 100000 in
theorem mk_X8_isRoom : mok km_X8_isRoom = true := by decide +kernel
set_option maxRecDepth 100000 in
theorem mw_X8_isRoom : GoodIn lw_tbl (mwd km_X8_isRoom) := goodIn_r _ [730] (by decide +kernel) (by decide +kernel)
set_option maxRecDepth 100000 in
theorem mk_X8_allRooms : mok km_X8_allRooms = true := by decide +kernel
set_option maxRecDepth 100000 in
theorem mw_X8_allRooms : GoodIn lw_tbl (mwd km_X8_allRooms) := goodIn_r _ [730] (by decide +kernel) (by decide +kernel)
set_option maxRecDepth 100000 in
theorem mk_X8_size : mok km_X8_size = true := by decide +kernel
set_option maxRecDepth 100000 in
theorem mw_X8_size : GoodIn lw_tbl (mwd km_X8_size) := goodIn_r _ [] (by decide +kernel) (by decide +kernel)
set_option maxRecDepth 100000 in
theorem mk_X8_begin : mok km_X8_begin = true := by decide +kernel
set_option maxRecDepth 100000 in
theorem mw_X8_begin : GoodIn lw_tbl (mwd km_X8_begin) := goodIn_r _ [731, 733, 785, 787, 20, 788, 45, 732] (by decide +kernel) (by decide +kernel)
set_option maxRecDepth 100000 in
theorem mk_X8_rooms : mok km_X8_rooms = true := by decide +kernel
set_option maxRecDepth 100000 in
theorem mw_X8_rooms : GoodIn lw_tbl (mwd km_X8_rooms) := goodIn_r _ [729, 777, 779, 18, 780, 45, 730, 730, 781, 783, 19, 784, 45] (by decide +kernel) (by decide +kernel)
set_option maxRecDepth 100000 in
theorem mk_X8_countDoors : mok km_X8_countDoors = true := by decide +kernel
set_option maxRecDepth 100000 in
theorem mw_X8_countDoors : GoodIn lw_tbl (mwd km_X8_countDoors) := goodIn_r _ [730, 731, 801, 802, 803, 45] (by decide +kernel) (by decide +kernel)
set_option maxRecDepth 100000 in
theorem mk_X8_put : mok km_X8_put = true := by decide +kernel
set_option maxRecDepth 100000 in
theorem mw_X8_put : GoodIn lw_tbl (mwd km_X8_put) := goodIn_r _ [731, 731, 731, 731, 731, 731] (by decide +kernel) (by decide +kernel)
set_option maxRecDepth 100000 in
theorem mk_X8_family_0 : ∀ q ∈ kq_X8_family_0, rok km_X8_family q.1 q.2 = true := by decide +kernel
set_option maxRecDepth 100000 in
theorem mk_X8_family_1 : ∀ q ∈ kq_X8_family_1, rok km_X8_family q.1 q.2 = true := by decide +kernel
set_option maxRecDepth 100000 in
theorem mk_X8_family_2 : ∀ q ∈ kq_X8_family_2, rok km_X8_family q.1 q.2 = true := by decide +kernel
set_option maxRecDepth 100000 in
theorem mk_X8_family_3 : ∀ q ∈ kq_X8_family_3, rok km_X8_family q.1 q.2 = true := by decide +kernel
set_option maxRecDepth 100000 in
theorem mk_X8_family_4 : ∀ q ∈ kq_X8_family_4, rok km_X8_family q.1 q.2 = true := by decide +kernel
set_option maxRecDepth 100000 in
theorem mk_X8_family_5 : ∀ q ∈ kq_X8_family_5, rok km_X8_family q.1 q.2 = true := by decide +kernel
set_option maxRecDepth 100000 in
theorem mk_X8_family_6 : ∀ q ∈ kq_X8_family_6, rok km_X8_family q.1 q.2 = true := by decide +kernel
set_option maxRecDepth 100000 in
theorem mk_X8_family_7 : ∀ q ∈ kq_X8_family_7, rok km_X8_family q.1 q.2 = true := by decide +kernel
set_option maxRecDepth 100000 in
theorem mk_X8_family_8 : ∀ q ∈ kq_X8_family_8, rok km_X8_family q.1 q.2 = true := by decide +kernel
set_option maxRecDepth 100000 in
theorem mk_X8_family_9 : ∀ q ∈ kq_X8_family_9, rok km_X8_family q.1 q.2 = true := by decide +kernel
set_option maxRecDepth 100000 in
theorem mk_X8_family_10 : ∀ q ∈ kq_X8_family_10, rok km_X8_family q.1 q.2 = true := by decide +kernel
theorem mkr_X8_family : ∀ l ∈ kc_X8_family, ∀ q ∈ l, rok km_X8_family q.1 q.2 = true := (List.forall_mem_cons.mpr ⟨mk_X8_family_0, (List.forall_mem_cons.mpr ⟨mk_X8_family_1, (List.forall_mem_cons.mpr ⟨mk_X8_family_2, (List.forall_mem_cons.mpr ⟨mk_X8_family_3, (List.forall_mem_cons.mpr ⟨mk_X8_family_4, (List.forall_mem_cons.mpr ⟨mk_X8_family_5, (List.forall_mem_cons.mpr ⟨mk_X8_family_6, (List.forall_mem_cons.mpr ⟨mk_X8_family_7, (List.forall_mem_cons.mpr ⟨mk_X8_family_8, (List.forall_mem_cons.mpr ⟨mk_X8_family_9, (List.forall_mem_cons.mpr ⟨mk_X8_family_10, (fun _ h => absurd h List.not_mem_nil)⟩)⟩)⟩)⟩)⟩)⟩)⟩)⟩)⟩)⟩)⟩)
theorem mk_X8_family : mok km_X8_family = true := mok_of mkr_X8_family (by decide +kernel)
set_option maxRecDepth 100000 in
theorem mw_X8_family : GoodIn lw_tbl (mwd km_X8_family) := goodIn_r _ [729, 777, 779, 18, 780, 45, 730, 777, 779, 18, 780, 45, 781, 783, 19, 784, 45, 730, 730, 730, 793, 795, 21, 796, 45, 797, 799, 22, 800, 45] (by decide +kernel) (by decide +kernel)
set_option maxRecDepth 100000 in
theorem mk_X8_keep : mok km_X8_keep = true := by decide +kernel
set_option maxRecDepth 100000 in
theorem mw_X8_keep : GoodIn lw_tbl (mwd km_X8_keep) := goodIn_r _ [734, 733, 735, 733, 736, 733, 737, 733, 732, 733, 733] (by decide +kernel) (by decide +kernel)
set_option maxRecDepth 100000 in
theorem mk_X8_door_0 : ∀ q ∈ kq_X8_door_0, rok km_X8_door q.1 q.2 = true := by decide +kernel
set_option maxRecDepth 100000 in
theorem mk_X8_door_1 : ∀ q ∈ kq_X8_door_1, rok km_X8_door q.1 q.2 = true := by decide +kernel
set_option maxRecDepth 100000 in
theorem mk_X8_door_2 : ∀ q ∈ kq_X8_door_2, rok km_X8_door q.1 q.2 = true := by decide +kernel
set_option maxRecDepth 100000 in
theorem mk_X8_door_3 : ∀ q ∈ kq_X8_door_3, rok km_X8_door q.1 q.2 = true := by decide +kernel
set_option maxRecDepth 100000 in
theorem mk_X8_door_4 : ∀ q ∈ kq_X8_door_4, rok km_X8_door q.1 q.2 = true := by decide +kernel
set_option maxRecDepth 100000 in
theorem mk_X8_door_5 : ∀ q ∈ kq_X8_door_5, rok km_X8_door q.1 q.2 = true := by decide +kernel
set_option maxRecDepth 100000 in
theorem mk_X8_door_6 : ∀ q ∈ kq_X8_door_6, rok km_X8_door q.1 q.2 = true := by decide +kernel
set_option maxRecDepth 100000 in
theorem mk_X8_door_7 : ∀ q ∈ kq_X8_door_7, rok km_X8_door q.1 q.2 = true := by decide +kernel
theorem mkr_X8_door : ∀ l ∈ kc_X8_door, ∀ q ∈ l, rok km_X8_door q.1 q.2 = true := (List.forall_mem_cons.mpr ⟨mk_X8_door_0, (List.forall_mem_cons.mpr ⟨mk_X8_door_1, (List.forall_mem_cons.mpr ⟨mk_X8_door_2, (List.forall_mem_cons.mpr ⟨mk_X8_door_3, (List.forall_mem_cons.mpr ⟨mk_X8_door_4, (List.forall_mem_cons.mpr ⟨mk_X8_door_5, (List.forall_mem_cons.mpr ⟨mk_X8_door_6, (List.forall_mem_cons.mpr ⟨mk_X8_door_7, (fun _ h => absurd h List.not_mem_nil)⟩)⟩)⟩)⟩)⟩)⟩)⟩)⟩)
theorem mk_X8_door : mok km_X8_door = true := mok_of mkr_X8_door (by decide +kernel)
set_option maxRecDepth 100000 in
theorem mw_X8_door : GoodIn lw_tbl (mwd km_X8_door) := goodIn_r _ [729, 808, 810, 23, 811, 45, 808, 810, 23, 811, 45, 777, 779, 18, 780, 45, 777, 779, 18, 780, 45, 731, 733, 777, 779, 18, 780, 45, 812, 814, 24, 815, 45, 793, 795, 21, 796, 45, 785, 787, 20, 788, 45, 732] (by decide +kernel) (by decide +kernel)
set_option maxRecDepth 100000 in
theorem mk_X8_behind : mok km_X8_behind = true := by decide +kernel
set_option maxRecDepth 100000 in
theorem mw_X8_behind : GoodIn lw_tbl (mwd km_X8_behind) := goodIn_r _ [730, 731] (by decide +kernel) (by decide +kernel)
set_option maxRecDepth 100000 in
theorem mk_X8_shoot : mok km_X8_shoot = true := by decide +kernel
set_option maxRecDepth 100000 in
theorem mw_X8_shoot : GoodIn lw_tbl (mwd km_X8_shoot) := goodIn_r _ [729, 808, 810, 23, 811, 45, 777, 779, 18, 780, 45, 732, 733, 777, 779, 18, 780, 45, 812, 814, 24, 815, 45, 732, 820, 822, 25, 823, 45, 732, 732] (by decide +kernel) (by decide +kernel)
set_option maxRecDepth 100000 in
theorem mk_X8_back : mok km_X8_back = true := by decide +kernel
set_option maxRecDepth 100000 in
theorem mw_X8_back : GoodIn lw_tbl (mwd km_X8_back) := goodIn_r _ [729, 733, 777, 779, 18, 780, 45, 733, 733, 734, 733, 734, 733, 735, 733, 736, 733, 793, 795, 21, 796, 45, 737, 733, 732, 733] (by decide +kernel) (by decide +kernel)
set_option maxRecDepth 100000 in
theorem mk_X8_doors : mok km_X8_doors = true := by decide +kernel
set_option maxRecDepth 100000 in
theorem mw_X8_doors : GoodIn lw_tbl (mwd km_X8_doors) := goodIn_r _ [729, 797, 799, 22, 800, 45] (by decide +kernel) (by decide +kernel)
set_option maxRecDepth 100000 in
theorem mk_X8_next : mok km_X8_next = true := by decide +kernel
set_option maxRecDepth 100000 in
theorem mw_X8_next : GoodIn lw_tbl (mwd km_X8_next) := goodIn_r _ [729, 808, 810, 23, 811, 45, 731, 777, 779, 18, 780, 45] (by decide +kernel) (by decide +kernel)
set_option maxRecDepth 100000 in
theorem mk_X8_place : mok km_X8_place = true := by decide +kernel
set_option maxRecDepth 100000 in
theorem mw_X8_place : GoodIn lw_tbl (mwd km_X8_place) := goodIn_r _ [] (by decide +kernel) (by decide +kernel)
set_option maxRecDepth 100000 in
theorem mk_X8_isNear : mok km_X8_isNear = true := by decide +kernel
set_option maxRecDepth 100000 in
theorem mw_X8_isNear : GoodIn lw_tbl (mwd km_X8_isNear) := goodIn_r _ [731] (by decide +kernel) (by decide +kernel)
set_option maxRecDepth 100000 in
theorem mk_X8_goes : mok km_X8_goes = true := by decide +kernel
set_option maxRecDepth 100000 in
theorem mw_X8_goes : GoodIn lw_tbl (mwd km_X8_goes) := goodIn_r _ [855, 857, 29, 858, 45] (by decide +kernel) (by decide +kernel)
set_option maxRecDepth 100000 in
theorem mk_X8_worst : mok km_X8_worst = true := by decide +kernel
set_option maxRecDepth 100000 in
theorem mw_X8_worst : GoodIn lw_tbl (mwd km_X8_worst) := goodIn_r _ [730, 855, 857, 29, 858, 45, 738, 848, 849, 850, 45] (by decide +kernel) (by decide +kernel)
set_option maxRecDepth 100000 in
theorem mk_X8_least : mok km_X8_least = true := by decide +kernel
set_option maxRecDepth 100000 in
theorem mw_X8_least : GoodIn lw_tbl (mwd km_X8_least) := goodIn_r _ [730, 855, 857, 29, 858, 45, 730, 863, 865, 31, 866, 45, 739, 848, 849, 850, 45] (by decide +kernel) (by decide +kernel)
end
