section
set_option maxRecDepth 100000 in
theorem mk_X8_fill_0 : ∀ q ∈ kq_X8_fill_0, rok km_X8_fill q.1 q.2 = true := by decide +kernel
set_option maxRecDepth 100000 in
theorem mk_X8_fill_1 : ∀ q ∈ kq_X8_fill_1, rok km_X8_fill q.1 q.2 = true := by decide +kernel
set_option maxRecDepth 100000 in
theorem mk_X8_fill_2 : ∀ q ∈ kq_X8_fill_2, rok km_X8_fill q.1 q.2 = true := by decide +kernel
set_option maxRecDepth 100000 in
theorem mk_X8_fill_3 : ∀ q ∈ kq_X8_fill_3, rok km_X8_fill q.1 q.2 = true := by decide +kernel
set_option maxRecDepth 100000 in
theorem mk_X8_fill_4 : ∀ q ∈ kq_X8_fill_4, rok km_X8_fill q.1 q.2 = true := by decide +kernel
set_option maxRecDepth 100000 in
theorem mk_X8_fill_5 : ∀ q ∈ kq_X8_fill_5, rok km_X8_fill q.1 q.2 = true := by decide +kernel
set_option maxRecDepth 100000 in
theorem mk_X8_fill_6 : ∀ q ∈ kq_X8_fill_6, rok km_X8_fill q.1 q.2 = true := by decide +kernel
set_option maxRecDepth 100000 in
theorem mk_X8_fill_7 : ∀ q ∈ kq_X8_fill_7, rok km_X8_fill q.1 q.2 = true := by decide +kernel
set_option maxRecDepth 100000 in
theorem mk_X8_fill_8 : ∀ q ∈ kq_X8_fill_8, rok km_X8_fill q.1 q.2 = true := by decide +kernel
set_option maxRecDepth 100000 in
theorem mk_X8_fill_9 : ∀ q ∈ kq_X8_fill_9, rok km_X8_fill q.1 q.2 = true := by decide +kernel
set_option maxRecDepth 100000 in
theorem mk_X8_fill_10 : ∀ q ∈ kq_X8_fill_10, rok km_X8_fill q.1 q.2 = true := by decide +kernel
set_option maxRecDepth 100000 in
theorem mk_X8_fill_11 : ∀ q ∈ kq_X8_fill_11, rok km_X8_fill q.1 q.2 = true := by decide +kernel
set_option maxRecDepth 100000 in
theorem mk_X8_fill_12 : ∀ q ∈ kq_X8_fill_12, rok km_X8_fill q.1 q.2 = true := by decide +kernel
set_option maxRecDepth 100000 in
theorem mk_X8_fill_13 : ∀ q ∈ kq_X8_fill_13, rok km_X8_fill q.1 q.2 = true := by decide +kernel
set_option maxRecDepth 100000 in
theorem mk_X8_fill_14 : ∀ q ∈ kq_X8_fill_14, rok km_X8_fill q.1 q.2 = true := by decide +kernel
set_option maxRecDepth 100000 in
theorem mk_X8_fill_15 : ∀ q ∈ kq_X8_fill_15, rok km_X8_fill q.1 q.2 = true := by decide +kernel
set_option maxRecDepth 100000 in
theorem mk_X8_fill_16 : ∀ q ∈ kq_X8_fill_16, rok km_X8_fill q.1 q.2 = true := by decide +kernel
set_option maxRecDepth 100000 in
theorem mk_X8_fill_17 : ∀ q ∈ kq_X8_fill_17, rok km_X8_fill q.1 q.2 = true := by decide +kernel
set_option maxRecDepth 100000 in
theorem mk_X8_fill_18 : ∀ q ∈ kq_X8_fill_18, rok km_X8_fill q.1 q.2 = true := by decide +kernel
set_option maxRecDepth 100000 in
theorem mk_X8_fill_19 : ∀ q ∈ kq_X8_fill_19, rok km_X8_fill q.1 q.2 = true := by decide +kernel
set_option maxRecDepth 100000 in
theorem mk_X8_fill_20 : ∀ q ∈ kq_X8_fill_20, rok km_X8_fill q.1 q.2 = true := by decide +kernel
set_option maxRecDepth 100000 in
theorem mk_X8_fill_21 : ∀ q ∈ kq_X8_fill_21, rok km_X8_fill q.1 q.2 = true := by decide +kernel
set_option maxRecDepth 100000 in
theorem mk_X8_fill_22 : ∀ q ∈ kq_X8_fill_22, rok km_X8_fill q.1 q.2 = true := by decide +kernel
set_option maxRecDepth 100000 in
theorem mk_X8_fill_23 : ∀ q ∈ kq_X8_fill_23, rok km_X8_fill q.1 q.2 = true := by decide +kernel
set_option maxRecDepth 100000 in
theorem mk_X8_fill_24 : ∀ q ∈ kq_X8_fill_24, rok km_X8_fill q.1 q.2 = true := by decide +kernel
theorem mkr_X8_fill : ∀ l ∈ kc_X8_fill, ∀ q ∈ l, rok km_X8_fill q.1 q.2 = true := (List.forall_mem_cons.mpr ⟨mk_X8_fill_0, (List.forall_mem_cons.mpr ⟨mk_X8_fill_1, (List.forall_mem_cons.mpr ⟨mk_X8_fill_2, (List.forall_mem_cons.mpr ⟨mk_X8_fill_3, (List.forall_mem_cons.mpr ⟨mk_X8_fill_4, (List.forall_mem_cons.mpr ⟨mk_X8_fill_5, (List.forall_mem_cons.mpr ⟨mk_X8_fill_6, (List.forall_mem_cons.mpr ⟨mk_X8_fill_7, (List.forall_mem_cons.mpr ⟨mk_X8_fill_8, (List.forall_mem_cons.mpr ⟨mk_X8_fill_9, (List.forall_mem_cons.mpr ⟨mk_X8_fill_10, (List.forall_mem_cons.mpr ⟨mk_X8_fill_11, (List.forall_mem_cons.mpr ⟨mk_X8_fill_12, (List.forall_mem_cons.mpr ⟨mk_X8_fill_13, (List.forall_mem_cons.mpr ⟨mk_X8_fill_14, (List.forall_mem_cons.mpr ⟨mk_X8_fill_15, (List.forall_mem_cons.mpr ⟨mk_X8_fill_16, (List.forall_mem_cons.mpr ⟨mk_X8_fill_17, (List.forall_mem_cons.mpr ⟨mk_X8_fill_18, (List.forall_mem_cons.mpr ⟨mk_X8_fill_19, (List.forall_mem_cons.mpr ⟨mk_X8_fill_20, (List.forall_mem_cons.mpr ⟨mk_X8_fill_21, (List.forall_mem_cons.mpr ⟨mk_X8_fill_22, (List.forall_mem_cons.mpr ⟨mk_X8_fill_23, (List.forall_mem_cons.mpr ⟨mk_X8_fill_24, (fun _ h => absurd h List.not_mem_nil)⟩)⟩)⟩)⟩)⟩)⟩)⟩)⟩)⟩)⟩)⟩)⟩)⟩)⟩)⟩)⟩)⟩)⟩)⟩)⟩)⟩)⟩)⟩)⟩)⟩)
theorem mk_X8_fill : mok km_X8_fill = true := mok_of mkr_X8_fill (by decide +kernel)
set_option maxRecDepth 100000 in
theorem mw_X8_fill : GoodIn lw_tbl (mwd km_X8_fill) := goodIn_r _ [730, 738, 739, 730, 730, 738, 848, 849, 850, 45, 739, 848, 849, 850, 45, 730, 730, 848, 849, 850, 45, 739, 851, 853, 28, 854, 45, 739, 739, 730, 730, 848, 849, 850, 45, 859, 861, 30, 862, 45, 738, 738] (by decide +kernel) (by decide +kernel)
set_option maxRecDepth 100000 in
theorem mk_X8_areRooms : mok km_X8_areRooms = true := by decide +kernel
set_option maxRecDepth 100000 in
theorem mw_X8_areRooms : GoodIn lw_tbl (mwd km_X8_areRooms) := goodIn_r _ [808, 810, 23, 811, 45, 808, 810, 23, 811, 45, 808, 810, 23, 811, 45] (by decide +kernel) (by decide +kernel)
set_option maxRecDepth 100000 in
theorem mk_X8_time : mok km_X8_time = true := by decide +kernel
set_option maxRecDepth 100000 in
theorem mw_X8_time : GoodIn lw_tbl (mwd km_X8_time) := goodIn_r _ [729, 840, 842, 26, 843, 45, 777, 779, 18, 780, 45, 844, 846, 27, 847, 45, 738, 848, 849, 850, 45] (by decide +kernel) (by decide +kernel)
set_option maxRecDepth 100000 in
theorem mk_X8_timeAnew : mok km_X8_timeAnew = true := by decide +kernel
set_option maxRecDepth 100000 in
theorem mw_X8_timeAnew : GoodIn lw_tbl (mwd km_X8_timeAnew) := goodIn_r _ [729, 840, 842, 26, 843, 45, 777, 779, 18, 780, 45, 777, 779, 18, 780, 45, 844, 846, 27, 847, 45, 738, 848, 849, 850, 45] (by decide +kernel) (by decide +kernel)
set_option maxRecDepth 100000 in
theorem mk_X8_step_0 : ∀ q ∈ kq_X8_step_0, rok km_X8_step q.1 q.2 = true := by decide +kernel
set_option maxRecDepth 100000 in
theorem mk_X8_step_1 : ∀ q ∈ kq_X8_step_1, rok km_X8_step q.1 q.2 = true := by decide +kernel
set_option maxRecDepth 100000 in
theorem mk_X8_step_2 : ∀ q ∈ kq_X8_step_2, rok km_X8_step q.1 q.2 = true := by decide +kernel
set_option maxRecDepth 100000 in
theorem mk_X8_step_3 : ∀ q ∈ kq_X8_step_3, rok km_X8_step q.1 q.2 = true := by decide +kernel
set_option maxRecDepth 100000 in
theorem mk_X8_step_4 : ∀ q ∈ kq_X8_step_4, rok km_X8_step q.1 q.2 = true := by decide +kernel
set_option maxRecDepth 100000 in
theorem mk_X8_step_5 : ∀ q ∈ kq_X8_step_5, rok km_X8_step q.1 q.2 = true := by decide +kernel
set_option maxRecDepth 100000 in
theorem mk_X8_step_6 : ∀ q ∈ kq_X8_step_6, rok km_X8_step q.1 q.2 = true := by decide +kernel
set_option maxRecDepth 100000 in
theorem mk_X8_step_7 : ∀ q ∈ kq_X8_step_7, rok km_X8_step q.1 q.2 = true := by decide +kernel
set_option maxRecDepth 100000 in
theorem mk_X8_step_8 : ∀ q ∈ kq_X8_step_8, rok km_X8_step q.1 q.2 = true := by decide +kernel
set_option maxRecDepth 100000 in
theorem mk_X8_step_9 : ∀ q ∈ kq_X8_step_9, rok km_X8_step q.1 q.2 = true := by decide +kernel
set_option maxRecDepth 100000 in
theorem mk_X8_step_10 : ∀ q ∈ kq_X8_step_10, rok km_X8_step q.1 q.2 = true := by decide +kernel
set_option maxRecDepth 100000 in
theorem mk_X8_step_11 : ∀ q ∈ kq_X8_step_11, rok km_X8_step q.1 q.2 = true := by decide +kernel
set_option maxRecDepth 100000 in
theorem mk_X8_step_12 : ∀ q ∈ kq_X8_step_12, rok km_X8_step q.1 q.2 = true := by decide +kernel
set_option maxRecDepth 100000 in
theorem mk_X8_step_13 : ∀ q ∈ kq_X8_step_13, rok km_X8_step q.1 q.2 = true := by decide +kernel
set_option maxRecDepth 100000 in
theorem mk_X8_step_14 : ∀ q ∈ kq_X8_step_14, rok km_X8_step q.1 q.2 = true := by decide +kernel
set_option maxRecDepth 100000 in
theorem mk_X8_step_15 : ∀ q ∈ kq_X8_step_15, rok km_X8_step q.1 q.2 = true := by decide +kernel
theorem mkr_X8_step : ∀ l ∈ kc_X8_step, ∀ q ∈ l, rok km_X8_step q.1 q.2 = true := (List.forall_mem_cons.mpr ⟨mk_X8_step_0, (List.forall_mem_cons.mpr ⟨mk_X8_step_1, (List.forall_mem_cons.mpr ⟨mk_X8_step_2, (List.forall_mem_cons.mpr ⟨mk_X8_step_3, (List.forall_mem_cons.mpr ⟨mk_X8_step_4, (List.forall_mem_cons.mpr ⟨mk_X8_step_5, (List.forall_mem_cons.mpr ⟨mk_X8_step_6, (List.forall_mem_cons.mpr ⟨mk_X8_step_7, (List.forall_mem_cons.mpr ⟨mk_X8_step_8, (List.forall_mem_cons.mpr ⟨mk_X8_step_9, (List.forall_mem_cons.mpr ⟨mk_X8_step_10, (List.forall_mem_cons.mpr ⟨mk_X8_step_11, (List.forall_mem_cons.mpr ⟨mk_X8_step_12, (List.forall_mem_cons.mpr ⟨mk_X8_step_13, (List.forall_mem_cons.mpr ⟨mk_X8_step_14, (List.forall_mem_cons.mpr ⟨mk_X8_step_15, (fun _ h => absurd h List.not_mem_nil)⟩)⟩)⟩)⟩)⟩)⟩)⟩)⟩)⟩)⟩)⟩)⟩)⟩)⟩)⟩)⟩)
theorem mk_X8_step : mok km_X8_step = true := mok_of mkr_X8_step (by decide +kernel)
set_option maxRecDepth 100000 in
theorem mw_X8_step : GoodIn lw_tbl (mwd km_X8_step) := goodIn_r _ [729, 840, 842, 26, 843, 45, 777, 779, 18, 780, 45, 844, 846, 27, 847, 45, 738, 848, 849, 850, 45, 730, 855, 857, 29, 858, 45, 730, 863, 865, 31, 866, 45, 739, 848, 849, 850, 45] (by decide +kernel) (by decide +kernel)
set_option maxRecDepth 100000 in
theorem mk_X8_away_0 : ∀ q ∈ kq_X8_away_0, rok km_X8_away q.1 q.2 = true := by decide +kernel
set_option maxRecDepth 100000 in
theorem mk_X8_away_1 : ∀ q ∈ kq_X8_away_1, rok km_X8_away q.1 q.2 = true := by decide +kernel
set_option maxRecDepth 100000 in
theorem mk_X8_away_2 : ∀ q ∈ kq_X8_away_2, rok km_X8_away q.1 q.2 = true := by decide +kernel
set_option maxRecDepth 100000 in
theorem mk_X8_away_3 : ∀ q ∈ kq_X8_away_3, rok km_X8_away q.1 q.2 = true := by decide +kernel
set_option maxRecDepth 100000 in
theorem mk_X8_away_4 : ∀ q ∈ kq_X8_away_4, rok km_X8_away q.1 q.2 = true := by decide +kernel
set_option maxRecDepth 100000 in
theorem mk_X8_away_5 : ∀ q ∈ kq_X8_away_5, rok km_X8_away q.1 q.2 = true := by decide +kernel
set_option maxRecDepth 100000 in
theorem mk_X8_away_6 : ∀ q ∈ kq_X8_away_6, rok km_X8_away q.1 q.2 = true := by decide +kernel
set_option maxRecDepth 100000 in
theorem mk_X8_away_7 : ∀ q ∈ kq_X8_away_7, rok km_X8_away q.1 q.2 = true := by decide +kernel
set_option maxRecDepth 100000 in
theorem mk_X8_away_8 : ∀ q ∈ kq_X8_away_8, rok km_X8_away q.1 q.2 = true := by decide +kernel
theorem mkr_X8_away : ∀ l ∈ kc_X8_away, ∀ q ∈ l, rok km_X8_away q.1 q.2 = true := (List.forall_mem_cons.mpr ⟨mk_X8_away_0, (List.forall_mem_cons.mpr ⟨mk_X8_away_1, (List.forall_mem_cons.mpr ⟨mk_X8_away_2, (List.forall_mem_cons.mpr ⟨mk_X8_away_3, (List.forall_mem_cons.mpr ⟨mk_X8_away_4, (List.forall_mem_cons.mpr ⟨mk_X8_away_5, (List.forall_mem_cons.mpr ⟨mk_X8_away_6, (List.forall_mem_cons.mpr ⟨mk_X8_away_7, (List.forall_mem_cons.mpr ⟨mk_X8_away_8, (fun _ h => absurd h List.not_mem_nil)⟩)⟩)⟩)⟩)⟩)⟩)⟩)⟩)⟩)
theorem mk_X8_away : mok km_X8_away = true := mok_of mkr_X8_away (by decide +kernel)
set_option maxRecDepth 100000 in
theorem mw_X8_away : GoodIn lw_tbl (mwd km_X8_away) := goodIn_r _ [729, 840, 842, 26, 843, 45, 777, 779, 18, 780, 45, 844, 846, 27, 847, 45, 730, 855, 857, 29, 858, 45, 738, 848, 849, 850, 45] (by decide +kernel) (by decide +kernel)
set_option maxRecDepth 100000 in
theorem mk_X8_catches_0 : ∀ q ∈ kq_X8_catches_0, rok km_X8_catches q.1 q.2 = true := by decide +kernel
set_option maxRecDepth 100000 in
theorem mk_X8_catches_1 : ∀ q ∈ kq_X8_catches_1, rok km_X8_catches q.1 q.2 = true := by decide +kernel
set_option maxRecDepth 100000 in
theorem mk_X8_catches_2 : ∀ q ∈ kq_X8_catches_2, rok km_X8_catches q.1 q.2 = true := by decide +kernel
set_option maxRecDepth 100000 in
theorem mk_X8_catches_3 : ∀ q ∈ kq_X8_catches_3, rok km_X8_catches q.1 q.2 = true := by decide +kernel
set_option maxRecDepth 100000 in
theorem mk_X8_catches_4 : ∀ q ∈ kq_X8_catches_4, rok km_X8_catches q.1 q.2 = true := by decide +kernel
set_option maxRecDepth 100000 in
theorem mk_X8_catches_5 : ∀ q ∈ kq_X8_catches_5, rok km_X8_catches q.1 q.2 = true := by decide +kernel
set_option maxRecDepth 100000 in
theorem mk_X8_catches_6 : ∀ q ∈ kq_X8_catches_6, rok km_X8_catches q.1 q.2 = true := by decide +kernel
set_option maxRecDepth 100000 in
theorem mk_X8_catches_7 : ∀ q ∈ kq_X8_catches_7, rok km_X8_catches q.1 q.2 = true := by decide +kernel
set_option maxRecDepth 100000 in
theorem mk_X8_catches_8 : ∀ q ∈ kq_X8_catches_8, rok km_X8_catches q.1 q.2 = true := by decide +kernel
set_option maxRecDepth 100000 in
theorem mk_X8_catches_9 : ∀ q ∈ kq_X8_catches_9, rok km_X8_catches q.1 q.2 = true := by decide +kernel
theorem mkr_X8_catches : ∀ l ∈ kc_X8_catches, ∀ q ∈ l, rok km_X8_catches q.1 q.2 = true := (List.forall_mem_cons.mpr ⟨mk_X8_catches_0, (List.forall_mem_cons.mpr ⟨mk_X8_catches_1, (List.forall_mem_cons.mpr ⟨mk_X8_catches_2, (List.forall_mem_cons.mpr ⟨mk_X8_catches_3, (List.forall_mem_cons.mpr ⟨mk_X8_catches_4, (List.forall_mem_cons.mpr ⟨mk_X8_catches_5, (List.forall_mem_cons.mpr ⟨mk_X8_catches_6, (List.forall_mem_cons.mpr ⟨mk_X8_catches_7, (List.forall_mem_cons.mpr ⟨mk_X8_catches_8, (List.forall_mem_cons.mpr ⟨mk_X8_catches_9, (fun _ h => absurd h List.not_mem_nil)⟩)⟩)⟩)⟩)⟩)⟩)⟩)⟩)⟩)⟩)
theorem mk_X8_catches : mok km_X8_catches = true := mok_of mkr_X8_catches (by decide +kernel)
set_option maxRecDepth 100000 in
theorem mw_X8_catches : GoodIn lw_tbl (mwd km_X8_catches) := goodIn_r _ [729, 777, 779, 18, 780, 45, 844, 846, 27, 847, 45, 730, 730, 730, 738, 848, 849, 850, 45] (by decide +kernel) (by decide +kernel)
set_option maxRecDepth 100000 in
theorem mk_X8_isCorner : mok km_X8_isCorner = true := by decide +kernel
set_option maxRecDepth 100000 in
theorem mw_X8_isCorner : GoodIn lw_tbl (mwd km_X8_isCorner) := goodIn_r _ [731, 730, 731] (by decide +kernel) (by decide +kernel)
set_option maxRecDepth 100000 in
theorem mk_X8_fallsApart : mok km_X8_fallsApart = true := by decide +kernel
set_option maxRecDepth 100000 in
theorem mw_X8_fallsApart : GoodIn lw_tbl (mwd km_X8_fallsApart) := goodIn_r _ [729, 785, 787, 20, 788, 45, 730, 887, 889, 32, 890, 45, 801, 802, 803, 45] (by decide +kernel) (by decide +kernel)
set_option maxRecDepth 100000 in
theorem mk_X8_rabbit : mok km_X8_rabbit = true := by decide +kernel
set_option maxRecDepth 100000 in
theorem mw_X8_rabbit : GoodIn lw_tbl (mwd km_X8_rabbit) := goodIn_r _ [729, 732] (by decide +kernel) (by decide +kernel)
set_option maxRecDepth 100000 in
theorem mk_X8_shots_0 : ∀ q ∈ kq_X8_shots_0, rok km_X8_shots q.1 q.2 = true := by decide +kernel
set_option maxRecDepth 100000 in
theorem mk_X8_shots_1 : ∀ q ∈ kq_X8_shots_1, rok km_X8_shots q.1 q.2 = true := by decide +kernel
set_option maxRecDepth 100000 in
theorem mk_X8_shots_2 : ∀ q ∈ kq_X8_shots_2, rok km_X8_shots q.1 q.2 = true := by decide +kernel
set_option maxRecDepth 100000 in
theorem mk_X8_shots_3 : ∀ q ∈ kq_X8_shots_3, rok km_X8_shots q.1 q.2 = true := by decide +kernel
set_option maxRecDepth 100000 in
theorem mk_X8_shots_4 : ∀ q ∈ kq_X8_shots_4, rok km_X8_shots q.1 q.2 = true := by decide +kernel
set_option maxRecDepth 100000 in
theorem mk_X8_shots_5 : ∀ q ∈ kq_X8_shots_5, rok km_X8_shots q.1 q.2 = true := by decide +kernel
set_option maxRecDepth 100000 in
theorem mk_X8_shots_6 : ∀ q ∈ kq_X8_shots_6, rok km_X8_shots q.1 q.2 = true := by decide +kernel
set_option maxRecDepth 100000 in
theorem mk_X8_shots_7 : ∀ q ∈ kq_X8_shots_7, rok km_X8_shots q.1 q.2 = true := by decide +kernel
set_option maxRecDepth 100000 in
theorem mk_X8_shots_8 : ∀ q ∈ kq_X8_shots_8, rok km_X8_shots q.1 q.2 = true := by decide +kernel
theorem mkr_X8_shots : ∀ l ∈ kc_X8_shots, ∀ q ∈ l, rok km_X8_shots q.1 q.2 = true := (List.forall_mem_cons.mpr ⟨mk_X8_shots_0, (List.forall_mem_cons.mpr ⟨mk_X8_shots_1, (List.forall_mem_cons.mpr ⟨mk_X8_shots_2, (List.forall_mem_cons.mpr ⟨mk_X8_shots_3, (List.forall_mem_cons.mpr ⟨mk_X8_shots_4, (List.forall_mem_cons.mpr ⟨mk_X8_shots_5, (List.forall_mem_cons.mpr ⟨mk_X8_shots_6, (List.forall_mem_cons.mpr ⟨mk_X8_shots_7, (List.forall_mem_cons.mpr ⟨mk_X8_shots_8, (fun _ h => absurd h List.not_mem_nil)⟩)⟩)⟩)⟩)⟩)⟩)⟩)⟩)⟩)
theorem mk_X8_shots : mok km_X8_shots = true := mok_of mkr_X8_shots (by decide +kernel)
set_option maxRecDepth 100000 in
theorem mw_X8_shots : GoodIn lw_tbl (mwd km_X8_shots) := goodIn_r _ [741, 741, 740, 730, 740, 820, 822, 25, 823, 45, 741, 741, 741, 740, 740, 741] (by decide +kernel) (by decide +kernel)
set_option maxRecDepth 100000 in
theorem mk_X8_hunt : mok km_X8_hunt = true := by decide +kernel
set_option maxRecDepth 100000 in
theorem mw_X8_hunt : GoodIn lw_tbl (mwd km_X8_hunt) := goodIn_r _ [729, 732, 899, 901, 33, 902, 45] (by decide +kernel) (by decide +kernel)
set_option maxRecDepth 100000 in
theorem mk_X8_huntAnew : mok km_X8_huntAnew = true := by decide +kernel
set_option maxRecDepth 100000 in
theorem mw_X8_huntAnew : GoodIn lw_tbl (mwd km_X8_huntAnew) := goodIn_r _ [729, 777, 779, 18, 780, 45, 732, 899, 901, 33, 902, 45] (by decide +kernel) (by decide +kernel)
set_option maxRecDepth 100000 in
theorem mk_X8_aim : mok km_X8_aim = true := by decide +kernel
set_option maxRecDepth 100000 in
theorem mw_X8_aim : GoodIn lw_tbl (mwd km_X8_aim) := goodIn_r _ [729, 732, 899, 901, 33, 902, 45, 730, 732, 820, 822, 25, 823, 45, 899, 901, 33, 902, 45] (by decide +kernel) (by decide +kernel)
set_option maxRecDepth 100000 in
theorem mk_X8_round : mok km_X8_round = true := by decide +kernel
set_option maxRecDepth 100000 in
theorem mw_X8_round : GoodIn lw_tbl (mwd km_X8_round) := goodIn_r _ [730, 731, 801, 802, 803, 45] (by decide +kernel) (by decide +kernel)
set_option maxRecDepth 100000 in
theorem mk_X8_isSet : mok km_X8_isSet = true := by decide +kernel
set_option maxRecDepth 100000 in
theorem mw_X8_isSet : GoodIn lw_tbl (mwd km_X8_isSet) := goodIn_r _ [785, 787, 20, 788, 45] (by decide +kernel) (by decide +kernel)
set_option maxRecDepth 100000 in
theorem mk_X8_lastOf : mok km_X8_lastOf = true := by decide +kernel
set_option maxRecDepth 100000 in
theorem mw_X8_lastOf : GoodIn lw_tbl (mwd km_X8_lastOf) := goodIn_r _ [923, 925, 36, 926, 45, 923, 925, 36, 926, 45] (by decide +kernel) (by decide +kernel)
end
