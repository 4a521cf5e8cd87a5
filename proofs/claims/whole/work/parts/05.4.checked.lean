section
set_option maxRecDepth 100000 in
theorem mk_X8_forced : mok km_X8_forced = true := by decide +kernel
set_option maxRecDepth 100000 in
theorem mw_X8_forced : GoodIn lw_tbl (mwd km_X8_forced) := goodIn_r _ [729, 915, 917, 34, 918, 45, 919, 921, 35, 922, 45, 777, 779, 18, 780, 45] (by decide +kernel) (by decide +kernel)
set_option maxRecDepth 100000 in
theorem mk_X8_rounds : mok km_X8_rounds = true := by decide +kernel
set_option maxRecDepth 100000 in
theorem mw_X8_rounds : GoodIn lw_tbl (mwd km_X8_rounds) := goodIn_r _ [729, 915, 917, 34, 918, 45, 777, 779, 18, 780, 45, 923, 925, 36, 926, 45, 923, 925, 36, 926, 45] (by decide +kernel) (by decide +kernel)
set_option maxRecDepth 100000 in
theorem mk_X8_leastBlue : mok km_X8_leastBlue = true := by decide +kernel
set_option maxRecDepth 100000 in
theorem mw_X8_leastBlue : GoodIn lw_tbl (mwd km_X8_leastBlue) := goodIn_r _ [729, 785, 787, 20, 788, 45, 785, 787, 20, 788, 45, 801, 802, 803, 45, 801, 802, 803, 45, 919, 921, 35, 922, 45, 785, 787, 20, 788, 45] (by decide +kernel) (by decide +kernel)
set_option maxRecDepth 100000 in
theorem mk_J6_bitCount_0f7a4 : mok km_J6_bitCount_0f7a4 = true := by decide +kernel
set_option maxRecDepth 100000 in
theorem mw_J6_bitCount_0f7a4 : GoodIn lw_tbl (mwd km_J6_bitCount_0f7a4) := goodIn_r _ [208, 209, 209, 210] (by decide +kernel) (by decide +kernel)
set_option maxRecDepth 100000 in
theorem mk_L_rooms : mok km_L_rooms = true := by decide +kernel
set_option maxRecDepth 100000 in
theorem mw_L_rooms : GoodIn lw_tbl (mwd km_L_rooms) := goodIn_r _ [314, 315, 316, 317, 38, 313] (by decide +kernel) (by decide +kernel)
set_option maxRecDepth 100000 in
theorem mk_L_family : mok km_L_family = true := by decide +kernel
set_option maxRecDepth 100000 in
theorem mw_L_family : GoodIn lw_tbl (mwd km_L_family) := goodIn_r _ [410, 411, 412, 413, 38, 313, 409] (by decide +kernel) (by decide +kernel)
set_option maxRecDepth 100000 in
theorem mk_L_door : mok km_L_door = true := by decide +kernel
set_option maxRecDepth 100000 in
theorem mw_L_door : GoodIn lw_tbl (mwd km_L_door) := goodIn_r _ [449, 450, 451, 452, 38, 448, 313, 409] (by decide +kernel) (by decide +kernel)
set_option maxRecDepth 100000 in
theorem mk_L_shoot : mok km_L_shoot = true := by decide +kernel
set_option maxRecDepth 100000 in
theorem mw_L_shoot : GoodIn lw_tbl (mwd km_L_shoot) := goodIn_r _ [500, 501, 502, 503, 38, 448, 409] (by decide +kernel) (by decide +kernel)
set_option maxRecDepth 100000 in
theorem mk_L_back : mok km_L_back = true := by decide +kernel
set_option maxRecDepth 100000 in
theorem mw_L_back : GoodIn lw_tbl (mwd km_L_back) := goodIn_r _ [513, 514, 515, 516, 38, 409] (by decide +kernel) (by decide +kernel)
set_option maxRecDepth 100000 in
theorem mk_L_next : mok km_L_next = true := by decide +kernel
set_option maxRecDepth 100000 in
theorem mw_L_next : GoodIn lw_tbl (mwd km_L_next) := goodIn_r _ [538, 539, 540, 541, 38, 448] (by decide +kernel) (by decide +kernel)
set_option maxRecDepth 100000 in
theorem mk_L_time : mok km_L_time = true := by decide +kernel
set_option maxRecDepth 100000 in
theorem mw_L_time : GoodIn lw_tbl (mwd km_L_time) := goodIn_r _ [546, 547, 548, 549, 38, 448] (by decide +kernel) (by decide +kernel)
set_option maxRecDepth 100000 in
theorem mk_L_timeAnew : mok km_L_timeAnew = true := by decide +kernel
set_option maxRecDepth 100000 in
theorem mw_L_timeAnew : GoodIn lw_tbl (mwd km_L_timeAnew) := goodIn_r _ [613, 614, 615, 616, 38, 448, 313] (by decide +kernel) (by decide +kernel)
set_option maxRecDepth 100000 in
theorem mk_L_step : mok km_L_step = true := by decide +kernel
set_option maxRecDepth 100000 in
theorem mw_L_step : GoodIn lw_tbl (mwd km_L_step) := goodIn_r _ [635, 636, 637, 638, 38, 448] (by decide +kernel) (by decide +kernel)
set_option maxRecDepth 100000 in
theorem mk_L_away : mok km_L_away = true := by decide +kernel
set_option maxRecDepth 100000 in
theorem mw_L_away : GoodIn lw_tbl (mwd km_L_away) := goodIn_r _ [656, 657, 658, 659, 38, 448] (by decide +kernel) (by decide +kernel)
set_option maxRecDepth 100000 in
theorem mk_L_catches : mok km_L_catches = true := by decide +kernel
set_option maxRecDepth 100000 in
theorem mw_L_catches : GoodIn lw_tbl (mwd km_L_catches) := goodIn_r _ [668, 669, 670, 671, 38, 313] (by decide +kernel) (by decide +kernel)
set_option maxRecDepth 100000 in
theorem mk_L_huntAnew : mok km_L_huntAnew = true := by decide +kernel
set_option maxRecDepth 100000 in
theorem mw_L_huntAnew : GoodIn lw_tbl (mwd km_L_huntAnew) := goodIn_r _ [688, 689, 690, 691, 38, 313] (by decide +kernel) (by decide +kernel)
set_option maxRecDepth 100000 in
theorem mk_L_forced : mok km_L_forced = true := by decide +kernel
set_option maxRecDepth 100000 in
theorem mw_L_forced : GoodIn lw_tbl (mwd km_L_forced) := goodIn_r _ [703, 704, 705, 706, 38, 313] (by decide +kernel) (by decide +kernel)
set_option maxRecDepth 100000 in
theorem mk_L_rounds : mok km_L_rounds = true := by decide +kernel
set_option maxRecDepth 100000 in
theorem mw_L_rounds : GoodIn lw_tbl (mwd km_L_rounds) := goodIn_r _ [716, 717, 718, 719, 38, 313] (by decide +kernel) (by decide +kernel)
set_option maxRecDepth 100000 in
theorem mk_L_law_0 : ∀ q ∈ kq_L_law_0, rok km_L_law q.1 q.2 = true := by decide +kernel
set_option maxRecDepth 100000 in
theorem mk_L_law_1 : ∀ q ∈ kq_L_law_1, rok km_L_law q.1 q.2 = true := by decide +kernel
set_option maxRecDepth 100000 in
theorem mk_L_law_2 : ∀ q ∈ kq_L_law_2, rok km_L_law q.1 q.2 = true := by decide +kernel
set_option maxRecDepth 100000 in
theorem mk_L_law_3 : ∀ q ∈ kq_L_law_3, rok km_L_law q.1 q.2 = true := by decide +kernel
set_option maxRecDepth 100000 in
theorem mk_L_law_4 : ∀ q ∈ kq_L_law_4, rok km_L_law q.1 q.2 = true := by decide +kernel
set_option maxRecDepth 100000 in
theorem mk_L_law_5 : ∀ q ∈ kq_L_law_5, rok km_L_law q.1 q.2 = true := by decide +kernel
set_option maxRecDepth 100000 in
theorem mk_L_law_6 : ∀ q ∈ kq_L_law_6, rok km_L_law q.1 q.2 = true := by decide +kernel
set_option maxRecDepth 100000 in
theorem mk_L_law_7 : ∀ q ∈ kq_L_law_7, rok km_L_law q.1 q.2 = true := by decide +kernel
set_option maxRecDepth 100000 in
theorem mk_L_law_8 : ∀ q ∈ kq_L_law_8, rok km_L_law q.1 q.2 = true := by decide +kernel
set_option maxRecDepth 100000 in
theorem mk_L_law_9 : ∀ q ∈ kq_L_law_9, rok km_L_law q.1 q.2 = true := by decide +kernel
set_option maxRecDepth 100000 in
theorem mk_L_law_10 : ∀ q ∈ kq_L_law_10, rok km_L_law q.1 q.2 = true := by decide +kernel
set_option maxRecDepth 100000 in
theorem mk_L_law_11 : ∀ q ∈ kq_L_law_11, rok km_L_law q.1 q.2 = true := by decide +kernel
set_option maxRecDepth 100000 in
theorem mk_L_law_12 : ∀ q ∈ kq_L_law_12, rok km_L_law q.1 q.2 = true := by decide +kernel
set_option maxRecDepth 100000 in
theorem mk_L_law_13 : ∀ q ∈ kq_L_law_13, rok km_L_law q.1 q.2 = true := by decide +kernel
set_option maxRecDepth 100000 in
theorem mk_L_law_14 : ∀ q ∈ kq_L_law_14, rok km_L_law q.1 q.2 = true := by decide +kernel
set_option maxRecDepth 100000 in
theorem mk_L_law_15 : ∀ q ∈ kq_L_law_15, rok km_L_law q.1 q.2 = true := by decide +kernel
set_option maxRecDepth 100000 in
theorem mk_L_law_16 : ∀ q ∈ kq_L_law_16, rok km_L_law q.1 q.2 = true := by decide +kernel
set_option maxRecDepth 100000 in
theorem mk_L_law_17 : ∀ q ∈ kq_L_law_17, rok km_L_law q.1 q.2 = true := by decide +kernel
set_option maxRecDepth 100000 in
theorem mk_L_law_18 : ∀ q ∈ kq_L_law_18, rok km_L_law q.1 q.2 = true := by decide +kernel
set_option maxRecDepth 100000 in
theorem mk_L_law_19 : ∀ q ∈ kq_L_law_19, rok km_L_law q.1 q.2 = true := by decide +kernel
set_option maxRecDepth 100000 in
theorem mk_L_law_20 : ∀ q ∈ kq_L_law_20, rok km_L_law q.1 q.2 = true := by decide +kernel
set_option maxRecDepth 100000 in
theorem mk_L_law_21 : ∀ q ∈ kq_L_law_21, rok km_L_law q.1 q.2 = true := by decide +kernel
set_option maxRecDepth 100000 in
theorem mk_L_law_22 : ∀ q ∈ kq_L_law_22, rok km_L_law q.1 q.2 = true := by decide +kernel
set_option maxRecDepth 100000 in
theorem mk_L_law_23 : ∀ q ∈ kq_L_law_23, rok km_L_law q.1 q.2 = true := by decide +kernel
set_option maxRecDepth 100000 in
theorem mk_L_law_24 : ∀ q ∈ kq_L_law_24, rok km_L_law q.1 q.2 = true := by decide +kernel
set_option maxRecDepth 100000 in
theorem mk_L_law_25 : ∀ q ∈ kq_L_law_25, rok km_L_law q.1 q.2 = true := by decide +kernel
set_option maxRecDepth 100000 in
theorem mk_L_law_26 : ∀ q ∈ kq_L_law_26, rok km_L_law q.1 q.2 = true := by decide +kernel
set_option maxRecDepth 100000 in
theorem mk_L_law_27 : ∀ q ∈ kq_L_law_27, rok km_L_law q.1 q.2 = true := by decide +kernel
set_option maxRecDepth 100000 in
theorem mk_L_law_28 : ∀ q ∈ kq_L_law_28, rok km_L_law q.1 q.2 = true := by decide +kernel
set_option maxRecDepth 100000 in
theorem mk_L_law_29 : ∀ q ∈ kq_L_law_29, rok km_L_law q.1 q.2 = true := by decide +kernel
set_option maxRecDepth 100000 in
theorem mk_L_law_30 : ∀ q ∈ kq_L_law_30, rok km_L_law q.1 q.2 = true := by decide +kernel
set_option maxRecDepth 100000 in
theorem mk_L_law_31 : ∀ q ∈ kq_L_law_31, rok km_L_law q.1 q.2 = true := by decide +kernel
set_option maxRecDepth 100000 in
theorem mk_L_law_32 : ∀ q ∈ kq_L_law_32, rok km_L_law q.1 q.2 = true := by decide +kernel
set_option maxRecDepth 100000 in
theorem mk_L_law_33 : ∀ q ∈ kq_L_law_33, rok km_L_law q.1 q.2 = true := by decide +kernel
set_option maxRecDepth 100000 in
theorem mk_L_law_34 : ∀ q ∈ kq_L_law_34, rok km_L_law q.1 q.2 = true := by decide +kernel
set_option maxRecDepth 100000 in
theorem mk_L_law_35 : ∀ q ∈ kq_L_law_35, rok km_L_law q.1 q.2 = true := by decide +kernel
set_option maxRecDepth 100000 in
theorem mk_L_law_36 : ∀ q ∈ kq_L_law_36, rok km_L_law q.1 q.2 = true := by decide +kernel
set_option maxRecDepth 100000 in
theorem mk_L_law_37 : ∀ q ∈ kq_L_law_37, rok km_L_law q.1 q.2 = true := by decide +kernel
set_option maxRecDepth 100000 in
theorem mk_L_law_38 : ∀ q ∈ kq_L_law_38, rok km_L_law q.1 q.2 = true := by decide +kernel
set_option maxRecDepth 100000 in
theorem mk_L_law_39 : ∀ q ∈ kq_L_law_39, rok km_L_law q.1 q.2 = true := by decide +kernel
set_option maxRecDepth 100000 in
theorem mk_L_law_40 : ∀ q ∈ kq_L_law_40, rok km_L_law q.1 q.2 = true := by decide +kernel
set_option maxRecDepth 100000 in
theorem mk_L_law_41 : ∀ q ∈ kq_L_law_41, rok km_L_law q.1 q.2 = true := by decide +kernel
set_option maxRecDepth 100000 in
theorem mk_L_law_42 : ∀ q ∈ kq_L_law_42, rok km_L_law q.1 q.2 = true := by decide +kernel
set_option maxRecDepth 100000 in
theorem mk_L_law_43 : ∀ q ∈ kq_L_law_43, rok km_L_law q.1 q.2 = true := by decide +kernel
set_option maxRecDepth 100000 in
theorem mk_L_law_44 : ∀ q ∈ kq_L_law_44, rok km_L_law q.1 q.2 = true := by decide +kernel
set_option maxRecDepth 100000 in
theorem mk_L_law_45 : ∀ q ∈ kq_L_law_45, rok km_L_law q.1 q.2 = true := by decide +kernel
set_option maxRecDepth 100000 in
theorem mk_L_law_46 : ∀ q ∈ kq_L_law_46, rok km_L_law q.1 q.2 = true := by decide +kernel
set_option maxRecDepth 100000 in
theorem mk_L_law_47 : ∀ q ∈ kq_L_law_47, rok km_L_law q.1 q.2 = true := by decide +kernel
set_option maxRecDepth 100000 in
theorem mk_L_law_48 : ∀ q ∈ kq_L_law_48, rok km_L_law q.1 q.2 = true := by decide +kernel
set_option maxRecDepth 100000 in
theorem mk_L_law_49 : ∀ q ∈ kq_L_law_49, rok km_L_law q.1 q.2 = true := by decide +kernel
set_option maxRecDepth 100000 in
theorem mk_L_law_50 : ∀ q ∈ kq_L_law_50, rok km_L_law q.1 q.2 = true := by decide +kernel
set_option maxRecDepth 100000 in
theorem mk_L_law_51 : ∀ q ∈ kq_L_law_51, rok km_L_law q.1 q.2 = true := by decide +kernel
set_option maxRecDepth 100000 in
theorem mk_L_law_52 : ∀ q ∈ kq_L_law_52, rok km_L_law q.1 q.2 = true := by decide +kernel
set_option maxRecDepth 100000 in
theorem mk_L_law_53 : ∀ q ∈ kq_L_law_53, rok km_L_law q.1 q.2 = true := by decide +kernel
set_option maxRecDepth 100000 in
theorem mk_L_law_54 : ∀ q ∈ kq_L_law_54, rok km_L_law q.1 q.2 = true := by decide +kernel
set_option maxRecDepth 100000 in
theorem mk_L_law_55 : ∀ q ∈ kq_L_law_55, rok km_L_law q.1 q.2 = true := by decide +kernel
set_option maxRecDepth 100000 in
theorem mk_L_law_56 : ∀ q ∈ kq_L_law_56, rok km_L_law q.1 q.2 = true := by decide +kernel
set_option maxRecDepth 100000 in
theorem mk_L_law_57 : ∀ q ∈ kq_L_law_57, rok km_L_law q.1 q.2 = true := by decide +kernel
set_option maxRecDepth 100000 in
theorem mk_L_law_58 : ∀ q ∈ kq_L_law_58, rok km_L_law q.1 q.2 = true := by decide +kernel
set_option maxRecDepth 100000 in
theorem mk_L_law_59 : ∀ q ∈ kq_L_law_59, rok km_L_law q.1 q.2 = true := by decide +kernel
set_option maxRecDepth 100000 in
theorem mk_L_law_60 : ∀ q ∈ kq_L_law_60, rok km_L_law q.1 q.2 = true := by decide +kernel
set_option maxRecDepth 100000 in
theorem mk_L_law_61 : ∀ q ∈ kq_L_law_61, rok km_L_law q.1 q.2 = true := by decide +kernel
set_option maxRecDepth 100000 in
theorem mk_L_law_62 : ∀ q ∈ kq_L_law_62, rok km_L_law q.1 q.2 = true := by decide +kernel
set_option maxRecDepth 100000 in
theorem mk_L_law_63 : ∀ q ∈ kq_L_law_63, rok km_L_law q.1 q.2 = true := by decide +kernel
set_option maxRecDepth 100000 in
theorem mk_L_law_64 : ∀ q ∈ kq_L_law_64, rok km_L_law q.1 q.2 = true := by decide +kernel
set_option maxRecDepth 100000 in
theorem mk_L_law_65 : ∀ q ∈ kq_L_law_65, rok km_L_law q.1 q.2 = true := by decide +kernel
set_option maxRecDepth 100000 in
theorem mk_L_law_66 : ∀ q ∈ kq_L_law_66, rok km_L_law q.1 q.2 = true := by decide +kernel
set_option maxRecDepth 100000 in
theorem mk_L_law_67 : ∀ q ∈ kq_L_law_67, rok km_L_law q.1 q.2 = true := by decide +kernel
set_option maxRecDepth 100000 in
theorem mk_L_law_68 : ∀ q ∈ kq_L_law_68, rok km_L_law q.1 q.2 = true := by decide +kernel
set_option maxRecDepth 100000 in
theorem mk_L_law_69 : ∀ q ∈ kq_L_law_69, rok km_L_law q.1 q.2 = true := by decide +kernel
set_option maxRecDepth 100000 in
theorem mk_L_law_70 : ∀ q ∈ kq_L_law_70, rok km_L_law q.1 q.2 = true := by decide +kernel
set_option maxRecDepth 100000 in
theorem mk_L_law_71 : ∀ q ∈ kq_L_law_71, rok km_L_law q.1 q.2 = true := by decide +kernel
theorem mkr_L_law : ∀ l ∈ kc_L_law, ∀ q ∈ l, rok km_L_law q.1 q.2 = true := (List.forall_mem_cons.mpr ⟨mk_L_law_0, (List.forall_mem_cons.mpr ⟨mk_L_law_1, (List.forall_mem_cons.mpr ⟨mk_L_law_2, (List.forall_mem_cons.mpr ⟨mk_L_law_3, (List.forall_mem_cons.mpr ⟨mk_L_law_4, (List.forall_mem_cons.mpr ⟨mk_L_law_5, (List.forall_mem_cons.mpr ⟨mk_L_law_6, (List.forall_mem_cons.mpr ⟨mk_L_law_7, (List.forall_mem_cons.mpr ⟨mk_L_law_8, (List.forall_mem_cons.mpr ⟨mk_L_law_9, (List.forall_mem_cons.mpr ⟨mk_L_law_10, (List.forall_mem_cons.mpr ⟨mk_L_law_11, (List.forall_mem_cons.mpr ⟨mk_L_law_12, (List.forall_mem_cons.mpr ⟨mk_L_law_13, (List.forall_mem_cons.mpr ⟨mk_L_law_14, (List.forall_mem_cons.mpr ⟨mk_L_law_15, (List.forall_mem_cons.mpr ⟨mk_L_law_16, (List.forall_mem_cons.mpr ⟨mk_L_law_17, (List.forall_mem_cons.mpr ⟨mk_L_law_18, (List.forall_mem_cons.mpr ⟨mk_L_law_19, (List.forall_mem_cons.mpr ⟨mk_L_law_20, (List.forall_mem_cons.mpr ⟨mk_L_law_21, (List.forall_mem_cons.mpr ⟨mk_L_law_22, (List.forall_mem_cons.mpr ⟨mk_L_law_23, (List.forall_mem_cons.mpr ⟨mk_L_law_24, (List.forall_mem_cons.mpr ⟨mk_L_law_25, (List.forall_mem_cons.mpr ⟨mk_L_law_26, (List.forall_mem_cons.mpr ⟨mk_L_law_27, (List.forall_mem_cons.mpr ⟨mk_L_law_28, (List.forall_mem_cons.mpr ⟨mk_L_law_29, (List.forall_mem_cons.mpr ⟨mk_L_law_30, (List.forall_mem_cons.mpr ⟨mk_L_law_31, (List.forall_mem_cons.mpr ⟨mk_L_law_32, (List.forall_mem_cons.mpr ⟨mk_L_law_33, (List.forall_mem_cons.mpr ⟨mk_L_law_34, (List.forall_mem_cons.mpr ⟨mk_L_law_35, (List.forall_mem_cons.mpr ⟨mk_L_law_36, (List.forall_mem_cons.mpr ⟨mk_L_law_37, (List.forall_mem_cons.mpr ⟨mk_L_law_38, (List.forall_mem_cons.mpr ⟨mk_L_law_39, (List.forall_mem_cons.mpr ⟨mk_L_law_40, (List.forall_mem_cons.mpr ⟨mk_L_law_41, (List.forall_mem_cons.mpr ⟨mk_L_law_42, (List.forall_mem_cons.mpr ⟨mk_L_law_43, (List.forall_mem_cons.mpr ⟨mk_L_law_44, (List.forall_mem_cons.mpr ⟨mk_L_law_45, (List.forall_mem_cons.mpr ⟨mk_L_law_46, (List.forall_mem_cons.mpr ⟨mk_L_law_47, (List.forall_mem_cons.mpr ⟨mk_L_law_48, (List.forall_mem_cons.mpr ⟨mk_L_law_49, (List.forall_mem_cons.mpr ⟨mk_L_law_50, (List.forall_mem_cons.mpr ⟨mk_L_law_51, (List.forall_mem_cons.mpr ⟨mk_L_law_52, (List.forall_mem_cons.mpr ⟨mk_L_law_53, (List.forall_mem_cons.mpr ⟨mk_L_law_54, (List.forall_mem_cons.mpr ⟨mk_L_law_55, (List.forall_mem_cons.mpr ⟨mk_L_law_56, (List.forall_mem_cons.mpr ⟨mk_L_law_57, (List.forall_mem_cons.mpr ⟨mk_L_law_58, (List.forall_mem_cons.mpr ⟨mk_L_law_59, (List.forall_mem_cons.mpr ⟨mk_L_law_60, (List.forall_mem_cons.mpr ⟨mk_L_law_61, (List.forall_mem_cons.mpr ⟨mk_L_law_62, (List.forall_mem_cons.mpr ⟨mk_L_law_63, (List.forall_mem_cons.mpr ⟨mk_L_law_64, (List.forall_mem_cons.mpr ⟨mk_L_law_65, (List.forall_mem_cons.mpr ⟨mk_L_law_66, (List.forall_mem_cons.mpr ⟨mk_L_law_67, (List.forall_mem_cons.mpr ⟨mk_L_law_68, (List.forall_mem_cons.mpr ⟨mk_L_law_69, (List.forall_mem_cons.mpr ⟨mk_L_law_70, (List.forall_mem_cons.mpr ⟨mk_L_law_71, (fun _ h => absurd h List.not_mem_nil)⟩)⟩)⟩)⟩)⟩)⟩)⟩)⟩)⟩)⟩)⟩)⟩)⟩)⟩)⟩)⟩)⟩)⟩)⟩)⟩)⟩)⟩)⟩)⟩)⟩)⟩)⟩)⟩)⟩)⟩)⟩)⟩)⟩)⟩)⟩)⟩)⟩)⟩)⟩)⟩)⟩)⟩)⟩)⟩)⟩)⟩)⟩)⟩)⟩)⟩)⟩)⟩)⟩)⟩)⟩)⟩)⟩)⟩)⟩)⟩)⟩)⟩)⟩)⟩)⟩)⟩)⟩)⟩)⟩)⟩)⟩)⟩)
theorem mk_L_law : mok km_L_law = true := mok_of mkr_L_law (by decide +kernel)
set_option maxRecDepth 100000 in
theorem mw_L_law : GoodIn lw_tbl (mwd km_L_law) := goodIn_r _ [55, 56, 38, 57, 58, 59, 38, 723, 724, 45, 725, 726, 727, 45, 935, 310, 311, 312, 37, 773, 774, 775, 776, 45, 769, 770, 771, 772, 45, 406, 407, 408, 37, 789, 790, 791, 792, 45, 769, 770, 771, 772, 45, 445, 446, 447, 37, 804, 805, 806, 807, 45, 769, 770, 771, 772, 45, 497, 498, 499, 37, 816, 817, 818, 819, 45, 769, 770, 771, 772, 45, 510, 511, 512, 37, 824, 825, 826, 827, 45, 769, 770, 771, 772, 45, 189, 190, 191, 192, 38, 828, 829, 830, 831, 45, 535, 536, 537, 37, 832, 833, 834, 835, 45, 769, 770, 771, 772, 45, 543, 544, 545, 37, 836, 837, 838, 839, 45, 769, 770, 771, 772, 45, 610, 611, 612, 37, 867, 868, 869, 870, 45, 769, 770, 771, 772, 45, 632, 633, 634, 37, 871, 872, 873, 874, 45, 769, 770, 771, 772, 45, 653, 654, 655, 37, 875, 876, 877, 878, 45, 769, 770, 771, 772, 45, 665, 666, 667, 37, 879, 880, 881, 882, 45, 769, 770, 771, 772, 45, 211, 212, 213, 214, 38, 883, 884, 885, 886, 45, 232, 233, 234, 235, 38, 891, 892, 893, 894, 45, 236, 237, 238, 239, 38, 895, 896, 897, 898, 45, 685, 686, 687, 37, 903, 904, 905, 906, 45, 769, 770, 771, 772, 45, 278, 279, 280, 281, 38, 907, 908, 909, 910, 45, 700, 701, 702, 37, 911, 912, 913, 914, 45, 769, 770, 771, 772, 45, 713, 714, 715, 37, 927, 928, 929, 930, 45, 769, 770, 771, 772, 45, 287, 288, 289, 290, 38, 931, 932, 933, 934, 45] (by decide +kernel) (by decide +kernel)
end
