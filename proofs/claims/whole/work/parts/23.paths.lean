section
theorem hM_97 : mAt 97 = some km_X8_stop := rfl
theorem p97_e_a {E : Nat × (Nat → Int32)} {w : Wd} {d : Nat} {x1 : Int32} {w' : Wd} (qw : (sF 8 x1 w) = w') : Ev d 97 (ent0 97 [.ref 27, .int x1] (hp E w)) (.inl (some (.int (0 : Int32))), hp E w') := by
  subst qw
  refine Ev.run (c' := (6, [.ref 27, .int x1], [.int (0 : Int32)], hp E (sF 8 x1 w))) hM_97 4 rfl ?_
  exact Ev.fin hM_97 rfl rfl
theorem hM_98 : mAt 98 = some km_X8_isRoom := rfl
theorem p98_e_a {E : Nat × (Nat → Int32)} {w : Wd} {d : Nat} {x1 : Int32}  (c1 : ¬ x1 < 0) (c2 : x1 < (gF w 9)) : Ev d 98 (ent0 98 [.ref 27, .int x1] (hp E w)) (.inl (some (.int (1 : Int32))), hp E w) := by
  refine Ev.run (c' := (1, [.ref 27, .int x1], [.int x1], hp E w)) hM_98 1 rfl ?_
  refine Ev.ifF hM_98 rfl (cI_ltF c1) ?_
  refine Ev.run (c' := (9, [.ref 27, .int x1], [.int (gF w 9), .int x1], hp E w)) hM_98 3 rfl ?_
  refine Ev.icF hM_98 rfl (cI_geF c2) ?_
  refine Ev.run (c' := (17, [.ref 27, .int x1], [.int (1 : Int32)], hp E w)) hM_98 2 rfl ?_
  exact Ev.fin hM_98 rfl rfl
theorem p98_e_b {E : Nat × (Nat → Int32)} {w : Wd} {d : Nat} {x1 : Int32}  (c1 : ¬ x1 < 0) (c2 : ¬ x1 < (gF w 9)) : Ev d 98 (ent0 98 [.ref 27, .int x1] (hp E w)) (.inl (some (.int (0 : Int32))), hp E w) := by
  refine Ev.run (c' := (1, [.ref 27, .int x1], [.int x1], hp E w)) hM_98 1 rfl ?_
  refine Ev.ifF hM_98 rfl (cI_ltF c1) ?_
  refine Ev.run (c' := (9, [.ref 27, .int x1], [.int (gF w 9), .int x1], hp E w)) hM_98 3 rfl ?_
  refine Ev.icT hM_98 rfl (cI_geT c2) ?_
  refine Ev.run (c' := (17, [.ref 27, .int x1], [.int (0 : Int32)], hp E w)) hM_98 1 rfl ?_
  exact Ev.fin hM_98 rfl rfl
theorem p98_e_c {E : Nat × (Nat → Int32)} {w : Wd} {d : Nat} {x1 : Int32}  (c1 : x1 < 0) : Ev d 98 (ent0 98 [.ref 27, .int x1] (hp E w)) (.inl (some (.int (0 : Int32))), hp E w) := by
  refine Ev.run (c' := (1, [.ref 27, .int x1], [.int x1], hp E w)) hM_98 1 rfl ?_
  refine Ev.ifT hM_98 rfl (cI_ltT c1) ?_
  refine Ev.run (c' := (17, [.ref 27, .int x1], [.int (0 : Int32)], hp E w)) hM_98 1 rfl ?_
  exact Ev.fin hM_98 rfl rfl
theorem hM_99 : mAt 99 = some km_X8_allRooms := rfl
theorem p99_e_a {E : Nat × (Nat → Int32)} {w : Wd} {d : Nat} {y : Int32} (q : (((1 : Int32) <<< ((gF w 9) &&& 31)) - (1 : Int32)) = y) : Ev d 99 (ent0 99 [.ref 27] (hp E w)) (.inl (some (.int y)), hp E w) := by
  subst q
  refine Ev.run (c' := (8, [.ref 27], [.int (((1 : Int32) <<< ((gF w 9) &&& 31)) - (1 : Int32))], hp E w)) hM_99 6 rfl ?_
  exact Ev.fin hM_99 rfl rfl
theorem hM_100 : mAt 100 = some km_X8_size := rfl
theorem p100_e_a {E : Nat × (Nat → Int32)} {w : Wd} {d : Nat} {x0 : Int32} {o : Ou}  (e : Ev d 100 (4, [.int x0, .int (0 : Int32), .int (0 : Int32)], [], hp E w) o) : Ev d 100 (ent0 100 [.int x0] (hp E w)) o := by
  refine Ev.run (c' := (4, [.int x0, .int (0 : Int32), .int (0 : Int32)], [], hp E w)) hM_100 4 rfl ?_
  exact e
theorem p100_4_a {E : Nat × (Nat → Int32)} {w : Wd} {d : Nat} {x0 x1 x2 : Int32} {o : Ou} {y1 : Int32} {y2 : Int32} (c1 : x2 < (9 : Int32)) (q1 : (x1 + ((x0 >>> (x2 &&& 31)) &&& (1 : Int32))) = y1) (q2 : (x2 + (1 : Int32)) = y2) (e : Ev d 100 (4, [.int x0, .int y1, .int y2], [], hp E w) o) : Ev d 100 (4, [.int x0, .int x1, .int x2], [], hp E w) o := by
  subst q2
  subst q1
  refine Ev.run (c' := (7, [.int x0, .int x1, .int x2], [.int (9 : Int32), .int x2], hp E w)) hM_100 2 rfl ?_
  refine Ev.icF hM_100 rfl (cI_geF c1) ?_
  refine Ev.run (c' := (4, [.int x0, .int (x1 + ((x0 >>> (x2 &&& 31)) &&& (1 : Int32))), .int (x2 + (1 : Int32))], [], hp E w)) hM_100 10 rfl ?_
  exact e
theorem p100_4_b {E : Nat × (Nat → Int32)} {w : Wd} {d : Nat} {x0 x1 x2 : Int32}  (c1 : ¬ x2 < (9 : Int32)) : Ev d 100 (4, [.int x0, .int x1, .int x2], [], hp E w) (.inl (some (.int x1)), hp E w) := by
  refine Ev.run (c' := (7, [.int x0, .int x1, .int x2], [.int (9 : Int32), .int x2], hp E w)) hM_100 2 rfl ?_
  refine Ev.icT hM_100 rfl (cI_geT c1) ?_
  refine Ev.run (c' := (25, [.int x0, .int x1, .int x2], [.int x1], hp E w)) hM_100 1 rfl ?_
  exact Ev.fin hM_100 rfl rfl
theorem hM_101 : mAt 101 = some km_X8_begin := rfl
theorem p101_e_a {E : Nat × (Nat → Int32)} {w : Wd} {d : Nat} {o : Ou}  (e : Ev d 101 (2, [.ref 27, .int (0 : Int32)], [], hp E w) o) : Ev d 101 (ent0 101 [.ref 27] (hp E w)) o := by
  refine Ev.run (c' := (2, [.ref 27, .int (0 : Int32)], [], hp E w)) hM_101 2 rfl ?_
  exact e
theorem p101_2_a {E : Nat × (Nat → Int32)} {w : Wd} {d : Nat} {x1 : Int32} {o : Ou} {j1 : Nat} {y1 : Int32} {w' : Wd} (c1 : x1 < (9 : Int32)) (g1 : x1 = I j1) (b1 : j1 < 9) (q1 : ((I j1) + (1 : Int32)) = y1) (qw : (sA 10 (upd (gA w 10) j1 (0 : Int32)) w) = w') (e : Ev d 101 (2, [.ref 27, .int y1], [], hp E w') o) : Ev d 101 (2, [.ref 27, .int x1], [], hp E w) o := by
  subst qw
  subst q1
  refine Ev.run (c' := (5, [.ref 27, .int x1], [.int (9 : Int32), .int x1], hp E w)) hM_101 2 rfl ?_
  refine Ev.icF hM_101 rfl (cI_geF c1) ?_
  refine Ev.run (c' := (14, [.ref 27, .int x1], [.int (0 : Int32), .int x1, .ref 28], hp E w)) hM_101 4 rfl ?_
  subst g1
  refine Ev.iast hM_101 rfl (a := 27) rfl (inb_I b1 (by decide)) (h' := hp E (sA 10 (upd (gA w 10) j1 (0 : Int32)) w)) (by rw [I_clamp (Nat.lt_of_lt_of_le b1 (by decide))]; rfl) ?_
  refine Ev.run (c' := (2, [.ref 27, .int ((I j1) + (1 : Int32))], [], hp E (sA 10 (upd (gA w 10) j1 (0 : Int32)) w))) hM_101 2 rfl ?_
  exact e
theorem p101_2_b {E : Nat × (Nat → Int32)} {w : Wd} {d : Nat} {x1 : Int32} {w1 : Wd} {v1 : Int32} {w' : Wd} (hd : 1 ≤ d) (c1 : ¬ x1 < (9 : Int32)) (h1 : Ev (d - 1) 99 (ent0 99 [.ref 27] (hp E (sF 11 (0 : Int32) w))) (.inl (some (.int v1)), hp E w1)) (qw : (sF 10 v1 w1) = w') : Ev d 101 (2, [.ref 27, .int x1], [], hp E w) (.inl none, hp E w') := by
  subst qw
  refine Ev.run (c' := (5, [.ref 27, .int x1], [.int (9 : Int32), .int x1], hp E w)) hM_101 2 rfl ?_
  refine Ev.icT hM_101 rfl (cI_geT c1) ?_
  refine Ev.run (c' := (28, [.ref 27, .int x1], [.ref 27, .ref 27], hp E (sF 11 (0 : Int32) w))) hM_101 5 rfl ?_
  refine Ev.callR hd hM_101 rfl (y := 99) (as := [.ref 27]) (rest := [.ref 27]) rfl (Nat.le_of_ble_eq_true rfl) h1 ?_
  refine Ev.run (c' := (34, [.ref 27, .int x1], [], hp E (sF 10 v1 w1))) hM_101 1 rfl ?_
  exact Ev.fin hM_101 rfl rfl
theorem hM_102 : mAt 102 = some km_X8_rooms := rfl
theorem p102_e_a {E : Nat × (Nat → Int32)} {w : Wd} {d : Nat} {x1 : Int32} {w1 : Wd} {v1 : Int32} (hd : 1 ≤ d) (c1 : ¬ x1 < (1 : Int32)) (c2 : (9 : Int32) < x1) (h1 : Ev (d - 1) 97 (ent0 97 [.ref 27, .int (1 : Int32)] (hp E (sF 8 (0 : Int32) w))) (.inl (some (.int v1)), hp E w1)) : Ev d 102 (ent0 102 [.ref 27, .int x1] (hp E w)) (.inl (some (.int v1)), hp E w1) := by
  refine Ev.run (c' := (7, [.ref 27, .int x1, jk], [.int (1 : Int32), .int x1], hp E (sF 8 (0 : Int32) w))) hM_102 5 rfl ?_
  refine Ev.icF hM_102 rfl (cI_ltF c1) ?_
  refine Ev.run (c' := (13, [.ref 27, .int x1, jk], [.int (9 : Int32), .int x1], hp E (sF 8 (0 : Int32) w))) hM_102 2 rfl ?_
  refine Ev.icF hM_102 rfl (cI_leF c2) ?_
  refine Ev.run (c' := (18, [.ref 27, .int x1, jk], [.int (1 : Int32), .ref 27], hp E (sF 8 (0 : Int32) w))) hM_102 2 rfl ?_
  refine Ev.callR hd hM_102 rfl (y := 97) (as := [.ref 27, .int (1 : Int32)]) (rest := []) rfl (Nat.le_of_ble_eq_true rfl) h1 ?_
  refine Ev.run (c' := (21, [.ref 27, .int x1, jk], [.int v1], hp E w1)) hM_102 0 rfl ?_
  exact Ev.fin hM_102 rfl rfl
theorem p102_e_b {E : Nat × (Nat → Int32)} {w : Wd} {d : Nat} {x1 : Int32} {w1 : Wd} {y : Int32} (hd : 1 ≤ d) (c1 : ¬ x1 < (1 : Int32)) (c2 : ¬ (9 : Int32) < x1) (h1 : Ev (d - 1) 101 (ent0 101 [.ref 27] (hp E (sF 9 x1 (sF 8 (0 : Int32) w)))) (.inl none, hp E w1)) (q : (gF (sF 8 (0 : Int32) w) 9) = y) : Ev d 102 (ent0 102 [.ref 27, .int x1] (hp E w)) (.inl (some (.int y)), hp E w1) := by
  subst q
  refine Ev.run (c' := (7, [.ref 27, .int x1, jk], [.int (1 : Int32), .int x1], hp E (sF 8 (0 : Int32) w))) hM_102 5 rfl ?_
  refine Ev.icF hM_102 rfl (cI_ltF c1) ?_
  refine Ev.run (c' := (13, [.ref 27, .int x1, jk], [.int (9 : Int32), .int x1], hp E (sF 8 (0 : Int32) w))) hM_102 2 rfl ?_
  refine Ev.icT hM_102 rfl (cI_leT c2) ?_
  refine Ev.run (c' := (33, [.ref 27, .int x1, .int (gF (sF 8 (0 : Int32) w) 9)], [.ref 27], hp E (sF 9 x1 (sF 8 (0 : Int32) w)))) hM_102 7 rfl ?_
  refine Ev.callR hd hM_102 rfl (y := 101) (as := [.ref 27]) (rest := []) rfl (Nat.le_of_ble_eq_true rfl) h1 ?_
  refine Ev.run (c' := (37, [.ref 27, .int x1, .int (gF (sF 8 (0 : Int32) w) 9)], [.int (gF (sF 8 (0 : Int32) w) 9)], hp E w1)) hM_102 1 rfl ?_
  exact Ev.fin hM_102 rfl rfl
theorem p102_e_c {E : Nat × (Nat → Int32)} {w : Wd} {d : Nat} {x1 : Int32} {w1 : Wd} {v1 : Int32} (hd : 1 ≤ d) (c1 : x1 < (1 : Int32)) (h1 : Ev (d - 1) 97 (ent0 97 [.ref 27, .int (1 : Int32)] (hp E (sF 8 (0 : Int32) w))) (.inl (some (.int v1)), hp E w1)) : Ev d 102 (ent0 102 [.ref 27, .int x1] (hp E w)) (.inl (some (.int v1)), hp E w1) := by
  refine Ev.run (c' := (7, [.ref 27, .int x1, jk], [.int (1 : Int32), .int x1], hp E (sF 8 (0 : Int32) w))) hM_102 5 rfl ?_
  refine Ev.icT hM_102 rfl (cI_ltT c1) ?_
  refine Ev.run (c' := (18, [.ref 27, .int x1, jk], [.int (1 : Int32), .ref 27], hp E (sF 8 (0 : Int32) w))) hM_102 2 rfl ?_
  refine Ev.callR hd hM_102 rfl (y := 97) (as := [.ref 27, .int (1 : Int32)]) (rest := []) rfl (Nat.le_of_ble_eq_true rfl) h1 ?_
  refine Ev.run (c' := (21, [.ref 27, .int x1, jk], [.int v1], hp E w1)) hM_102 0 rfl ?_
  exact Ev.fin hM_102 rfl rfl
theorem hM_103 : mAt 103 = some km_X8_countDoors := rfl
theorem p103_e_a {E : Nat × (Nat → Int32)} {w : Wd} {d : Nat} {o : Ou}  (e : Ev d 103 (4, [.ref 27, .int (0 : Int32), .int (0 : Int32)], [], hp E w) o) : Ev d 103 (ent0 103 [.ref 27] (hp E w)) o := by
  refine Ev.run (c' := (4, [.ref 27, .int (0 : Int32), .int (0 : Int32)], [], hp E w)) hM_103 4 rfl ?_
  exact e
theorem p103_4_a {E : Nat × (Nat → Int32)} {w : Wd} {d : Nat} {x1 x2 : Int32} {o : Ou} {j1 : Nat} {z1 : Int32} {w1 : Wd} {v1 : Int32} {y1 : Int32} {y2 : Int32} (hd : 1 ≤ d) (c1 : x2 < (gF w 9)) (g1 : x2 = I j1) (b1 : j1 < 9) (a1 : (gA w 10 j1) = z1) (h1 : Ev (d - 1) 100 (ent0 100 [.int z1] (hp E w)) (.inl (some (.int v1)), hp E w1)) (q1 : (x1 + v1) = y1) (q2 : ((I j1) + (1 : Int32)) = y2) (e : Ev d 103 (4, [.ref 27, .int y1, .int y2], [], hp E w1) o) : Ev d 103 (4, [.ref 27, .int x1, .int x2], [], hp E w) o := by
  subst q2
  subst q1
  refine Ev.run (c' := (9, [.ref 27, .int x1, .int x2], [.int (gF w 9), .int x2], hp E w)) hM_103 3 rfl ?_
  refine Ev.icF hM_103 rfl (cI_geF c1) ?_
  refine Ev.run (c' := (18, [.ref 27, .int x1, .int x2], [.int x2, .ref 28, .int x1], hp E w)) hM_103 4 rfl ?_
  subst g1
  refine Ev.iald hM_103 rfl (a := 28) rfl (inb_I b1 (by decide)) ?_
  rw [I_clamp (Nat.lt_of_lt_of_le b1 (by decide))]
  refine Ev.run (c' := (19, [.ref 27, .int x1, .int (I j1)], [.int (gA w 10 j1), .int x1], hp E w)) hM_103 0 rfl ?_
  rw [← a1] at h1
  refine Ev.callR hd hM_103 rfl (y := 100) (as := [.int (gA w 10 j1)]) (rest := [.int x1]) rfl (Nat.le_of_ble_eq_true rfl) h1 ?_
  refine Ev.run (c' := (4, [.ref 27, .int (x1 + v1), .int ((I j1) + (1 : Int32))], [], hp E w1)) hM_103 4 rfl ?_
  exact e
theorem p103_4_b {E : Nat × (Nat → Int32)} {w : Wd} {d : Nat} {x1 x2 : Int32} {y : Int32} (c1 : ¬ x2 < (gF w 9)) (q : (x1 / (2 : Int32)) = y) : Ev d 103 (4, [.ref 27, .int x1, .int x2], [], hp E w) (.inl (some (.int y)), hp E w) := by
  subst q
  refine Ev.run (c' := (9, [.ref 27, .int x1, .int x2], [.int (gF w 9), .int x2], hp E w)) hM_103 3 rfl ?_
  refine Ev.icT hM_103 rfl (cI_geT c1) ?_
  refine Ev.run (c' := (33, [.ref 27, .int x1, .int x2], [.int (x1 / (2 : Int32))], hp E w)) hM_103 3 rfl ?_
  exact Ev.fin hM_103 rfl rfl
theorem hM_104 : mAt 104 = some km_X8_put := rfl
theorem p104_e_a {E : Nat × (Nat → Int32)} {w : Wd} {d : Nat} {x1 x2 x3 : Int32} {j1 : Nat} {j2 : Nat} {w' : Wd} (c1 : ¬ x3 = 0) (g1 : x1 = I j1) (b1 : j1 < 9) (c2 : ¬ x3 = 0) (g2 : x2 = I j2) (b2 : j2 < 9) (qw : (sA 10 (upd (gA (sA 10 (upd (gA w 10) j1 ((gA w 10 j1) ||| ((1 : Int32) <<< ((I j2) &&& 31)))) w) 10) j2 ((gA (sA 10 (upd (gA w 10) j1 ((gA w 10 j1) ||| ((1 : Int32) <<< ((I j2) &&& 31)))) w) 10 j2) ||| ((1 : Int32) <<< ((I j1) &&& 31)))) (sA 10 (upd (gA w 10) j1 ((gA w 10 j1) ||| ((1 : Int32) <<< ((I j2) &&& 31)))) w)) = w') : Ev d 104 (ent0 104 [.ref 27, .int x1, .int x2, .int x3] (hp E w)) (.inl none, hp E w') := by
  subst qw
  refine Ev.run (c' := (6, [.ref 27, .int x1, .int x2, .int x3], [.int x3, .int x1, .ref 28], hp E w)) hM_104 4 rfl ?_
  refine Ev.ifF hM_104 rfl (cI_eqF c1) ?_
  refine Ev.run (c' := (14, [.ref 27, .int x1, .int x2, .int x3], [.int x1, .ref 28, .int x1, .ref 28], hp E w)) hM_104 3 rfl ?_
  subst g1
  refine Ev.iald hM_104 rfl (a := 28) rfl (inb_I b1 (by decide)) ?_
  rw [I_clamp (Nat.lt_of_lt_of_le b1 (by decide))]
  refine Ev.run (c' := (34, [.ref 27, .int (I j1), .int x2, .int x3], [.int ((gA w 10 j1) ||| ((1 : Int32) <<< (x2 &&& 31))), .int (I j1), .ref 28], hp E w)) hM_104 5 rfl ?_
  refine Ev.iast hM_104 rfl (a := 27) rfl (inb_I b1 (by decide)) (h' := hp E (sA 10 (upd (gA w 10) j1 ((gA w 10 j1) ||| ((1 : Int32) <<< (x2 &&& 31)))) w)) (by rw [I_clamp (Nat.lt_of_lt_of_le b1 (by decide))]; rfl) ?_
  refine Ev.run (c' := (41, [.ref 27, .int (I j1), .int x2, .int x3], [.int x3, .int x2, .ref 28], hp E (sA 10 (upd (gA w 10) j1 ((gA w 10 j1) ||| ((1 : Int32) <<< (x2 &&& 31)))) w))) hM_104 4 rfl ?_
  refine Ev.ifF hM_104 rfl (cI_eqF c2) ?_
  refine Ev.run (c' := (49, [.ref 27, .int (I j1), .int x2, .int x3], [.int x2, .ref 28, .int x2, .ref 28], hp E (sA 10 (upd (gA w 10) j1 ((gA w 10 j1) ||| ((1 : Int32) <<< (x2 &&& 31)))) w))) hM_104 3 rfl ?_
  subst g2
  refine Ev.iald hM_104 rfl (a := 28) rfl (inb_I b2 (by decide)) ?_
  rw [I_clamp (Nat.lt_of_lt_of_le b2 (by decide))]
  refine Ev.run (c' := (69, [.ref 27, .int (I j1), .int (I j2), .int x3], [.int ((gA (sA 10 (upd (gA w 10) j1 ((gA w 10 j1) ||| ((1 : Int32) <<< ((I j2) &&& 31)))) w) 10 j2) ||| ((1 : Int32) <<< ((I j1) &&& 31))), .int (I j2), .ref 28], hp E (sA 10 (upd (gA w 10) j1 ((gA w 10 j1) ||| ((1 : Int32) <<< ((I j2) &&& 31)))) w))) hM_104 5 rfl ?_
  refine Ev.iast hM_104 rfl (a := 27) rfl (inb_I b2 (by decide)) (h' := hp E (sA 10 (upd (gA (sA 10 (upd (gA w 10) j1 ((gA w 10 j1) ||| ((1 : Int32) <<< ((I j2) &&& 31)))) w) 10) j2 ((gA (sA 10 (upd (gA w 10) j1 ((gA w 10 j1) ||| ((1 : Int32) <<< ((I j2) &&& 31)))) w) 10 j2) ||| ((1 : Int32) <<< ((I j1) &&& 31)))) (sA 10 (upd (gA w 10) j1 ((gA w 10 j1) ||| ((1 : Int32) <<< ((I j2) &&& 31)))) w))) (by rw [I_clamp (Nat.lt_of_lt_of_le b2 (by decide))]; rfl) ?_
  refine Ev.run (c' := (70, [.ref 27, .int (I j1), .int (I j2), .int x3], [], hp E (sA 10 (upd (gA (sA 10 (upd (gA w 10) j1 ((gA w 10 j1) ||| ((1 : Int32) <<< ((I j2) &&& 31)))) w) 10) j2 ((gA (sA 10 (upd (gA w 10) j1 ((gA w 10 j1) ||| ((1 : Int32) <<< ((I j2) &&& 31)))) w) 10 j2) ||| ((1 : Int32) <<< ((I j1) &&& 31)))) (sA 10 (upd (gA w 10) j1 ((gA w 10 j1) ||| ((1 : Int32) <<< ((I j2) &&& 31)))) w)))) hM_104 0 rfl ?_
  exact Ev.fin hM_104 rfl rfl
theorem p104_e_b {E : Nat × (Nat → Int32)} {w : Wd} {d : Nat} {x1 x2 x3 : Int32} {j1 : Nat} {j2 : Nat} {w' : Wd} (c1 : ¬ x3 = 0) (g1 : x1 = I j1) (b1 : j1 < 9) (c2 : x3 = 0) (g2 : x2 = I j2) (b2 : j2 < 9) (qw : (sA 10 (upd (gA (sA 10 (upd (gA w 10) j1 ((gA w 10 j1) ||| ((1 : Int32) <<< ((I j2) &&& 31)))) w) 10) j2 ((gA (sA 10 (upd (gA w 10) j1 ((gA w 10 j1) ||| ((1 : Int32) <<< ((I j2) &&& 31)))) w) 10 j2) &&& (((1 : Int32) <<< ((I j1) &&& 31)) ^^^ (-1 : Int32)))) (sA 10 (upd (gA w 10) j1 ((gA w 10 j1) ||| ((1 : Int32) <<< ((I j2) &&& 31)))) w)) = w') : Ev d 104 (ent0 104 [.ref 27, .int x1, .int x2, .int x3] (hp E w)) (.inl none, hp E w') := by
  subst qw
  refine Ev.run (c' := (6, [.ref 27, .int x1, .int x2, .int x3], [.int x3, .int x1, .ref 28], hp E w)) hM_104 4 rfl ?_
  refine Ev.ifF hM_104 rfl (cI_eqF c1) ?_
  refine Ev.run (c' := (14, [.ref 27, .int x1, .int x2, .int x3], [.int x1, .ref 28, .int x1, .ref 28], hp E w)) hM_104 3 rfl ?_
  subst g1
  refine Ev.iald hM_104 rfl (a := 28) rfl (inb_I b1 (by decide)) ?_
  rw [I_clamp (Nat.lt_of_lt_of_le b1 (by decide))]
  refine Ev.run (c' := (34, [.ref 27, .int (I j1), .int x2, .int x3], [.int ((gA w 10 j1) ||| ((1 : Int32) <<< (x2 &&& 31))), .int (I j1), .ref 28], hp E w)) hM_104 5 rfl ?_
  refine Ev.iast hM_104 rfl (a := 27) rfl (inb_I b1 (by decide)) (h' := hp E (sA 10 (upd (gA w 10) j1 ((gA w 10 j1) ||| ((1 : Int32) <<< (x2 &&& 31)))) w)) (by rw [I_clamp (Nat.lt_of_lt_of_le b1 (by decide))]; rfl) ?_
  refine Ev.run (c' := (41, [.ref 27, .int (I j1), .int x2, .int x3], [.int x3, .int x2, .ref 28], hp E (sA 10 (upd (gA w 10) j1 ((gA w 10 j1) ||| ((1 : Int32) <<< (x2 &&& 31)))) w))) hM_104 4 rfl ?_
  refine Ev.ifT hM_104 rfl (cI_eqT c2) ?_
  refine Ev.run (c' := (62, [.ref 27, .int (I j1), .int x2, .int x3], [.int x2, .ref 28, .int x2, .ref 28], hp E (sA 10 (upd (gA w 10) j1 ((gA w 10 j1) ||| ((1 : Int32) <<< (x2 &&& 31)))) w))) hM_104 3 rfl ?_
  subst g2
  refine Ev.iald hM_104 rfl (a := 28) rfl (inb_I b2 (by decide)) ?_
  rw [I_clamp (Nat.lt_of_lt_of_le b2 (by decide))]
  refine Ev.run (c' := (69, [.ref 27, .int (I j1), .int (I j2), .int x3], [.int ((gA (sA 10 (upd (gA w 10) j1 ((gA w 10 j1) ||| ((1 : Int32) <<< ((I j2) &&& 31)))) w) 10 j2) &&& (((1 : Int32) <<< ((I j1) &&& 31)) ^^^ (-1 : Int32))), .int (I j2), .ref 28], hp E (sA 10 (upd (gA w 10) j1 ((gA w 10 j1) ||| ((1 : Int32) <<< ((I j2) &&& 31)))) w))) hM_104 6 rfl ?_
  refine Ev.iast hM_104 rfl (a := 27) rfl (inb_I b2 (by decide)) (h' := hp E (sA 10 (upd (gA (sA 10 (upd (gA w 10) j1 ((gA w 10 j1) ||| ((1 : Int32) <<< ((I j2) &&& 31)))) w) 10) j2 ((gA (sA 10 (upd (gA w 10) j1 ((gA w 10 j1) ||| ((1 : Int32) <<< ((I j2) &&& 31)))) w) 10 j2) &&& (((1 : Int32) <<< ((I j1) &&& 31)) ^^^ (-1 : Int32)))) (sA 10 (upd (gA w 10) j1 ((gA w 10 j1) ||| ((1 : Int32) <<< ((I j2) &&& 31)))) w))) (by rw [I_clamp (Nat.lt_of_lt_of_le b2 (by decide))]; rfl) ?_
  refine Ev.run (c' := (70, [.ref 27, .int (I j1), .int (I j2), .int x3], [], hp E (sA 10 (upd (gA (sA 10 (upd (gA w 10) j1 ((gA w 10 j1) ||| ((1 : Int32) <<< ((I j2) &&& 31)))) w) 10) j2 ((gA (sA 10 (upd (gA w 10) j1 ((gA w 10 j1) ||| ((1 : Int32) <<< ((I j2) &&& 31)))) w) 10 j2) &&& (((1 : Int32) <<< ((I j1) &&& 31)) ^^^ (-1 : Int32)))) (sA 10 (upd (gA w 10) j1 ((gA w 10 j1) ||| ((1 : Int32) <<< ((I j2) &&& 31)))) w)))) hM_104 0 rfl ?_
  exact Ev.fin hM_104 rfl rfl
theorem p104_e_c {E : Nat × (Nat → Int32)} {w : Wd} {d : Nat} {x1 x2 x3 : Int32} {j1 : Nat} {j2 : Nat} {w' : Wd} (c1 : x3 = 0) (g1 : x1 = I j1) (b1 : j1 < 9) (c2 : ¬ x3 = 0) (g2 : x2 = I j2) (b2 : j2 < 9) (qw : (sA 10 (upd (gA (sA 10 (upd (gA w 10) j1 ((gA w 10 j1) &&& (((1 : Int32) <<< ((I j2) &&& 31)) ^^^ (-1 : Int32)))) w) 10) j2 ((gA (sA 10 (upd (gA w 10) j1 ((gA w 10 j1) &&& (((1 : Int32) <<< ((I j2) &&& 31)) ^^^ (-1 : Int32)))) w) 10 j2) ||| ((1 : Int32) <<< ((I j1) &&& 31)))) (sA 10 (upd (gA w 10) j1 ((gA w 10 j1) &&& (((1 : Int32) <<< ((I j2) &&& 31)) ^^^ (-1 : Int32)))) w)) = w') : Ev d 104 (ent0 104 [.ref 27, .int x1, .int x2, .int x3] (hp E w)) (.inl none, hp E w') := by
  subst qw
  refine Ev.run (c' := (6, [.ref 27, .int x1, .int x2, .int x3], [.int x3, .int x1, .ref 28], hp E w)) hM_104 4 rfl ?_
  refine Ev.ifT hM_104 rfl (cI_eqT c1) ?_
  refine Ev.run (c' := (27, [.ref 27, .int x1, .int x2, .int x3], [.int x1, .ref 28, .int x1, .ref 28], hp E w)) hM_104 3 rfl ?_
  subst g1
  refine Ev.iald hM_104 rfl (a := 28) rfl (inb_I b1 (by decide)) ?_
  rw [I_clamp (Nat.lt_of_lt_of_le b1 (by decide))]
  refine Ev.run (c' := (34, [.ref 27, .int (I j1), .int x2, .int x3], [.int ((gA w 10 j1) &&& (((1 : Int32) <<< (x2 &&& 31)) ^^^ (-1 : Int32))), .int (I j1), .ref 28], hp E w)) hM_104 6 rfl ?_
  refine Ev.iast hM_104 rfl (a := 27) rfl (inb_I b1 (by decide)) (h' := hp E (sA 10 (upd (gA w 10) j1 ((gA w 10 j1) &&& (((1 : Int32) <<< (x2 &&& 31)) ^^^ (-1 : Int32)))) w)) (by rw [I_clamp (Nat.lt_of_lt_of_le b1 (by decide))]; rfl) ?_
  refine Ev.run (c' := (41, [.ref 27, .int (I j1), .int x2, .int x3], [.int x3, .int x2, .ref 28], hp E (sA 10 (upd (gA w 10) j1 ((gA w 10 j1) &&& (((1 : Int32) <<< (x2 &&& 31)) ^^^ (-1 : Int32)))) w))) hM_104 4 rfl ?_
  refine Ev.ifF hM_104 rfl (cI_eqF c2) ?_
  refine Ev.run (c' := (49, [.ref 27, .int (I j1), .int x2, .int x3], [.int x2, .ref 28, .int x2, .ref 28], hp E (sA 10 (upd (gA w 10) j1 ((gA w 10 j1) &&& (((1 : Int32) <<< (x2 &&& 31)) ^^^ (-1 : Int32)))) w))) hM_104 3 rfl ?_
  subst g2
  refine Ev.iald hM_104 rfl (a := 28) rfl (inb_I b2 (by decide)) ?_
  rw [I_clamp (Nat.lt_of_lt_of_le b2 (by decide))]
  refine Ev.run (c' := (69, [.ref 27, .int (I j1), .int (I j2), .int x3], [.int ((gA (sA 10 (upd (gA w 10) j1 ((gA w 10 j1) &&& (((1 : Int32) <<< ((I j2) &&& 31)) ^^^ (-1 : Int32)))) w) 10 j2) ||| ((1 : Int32) <<< ((I j1) &&& 31))), .int (I j2), .ref 28], hp E (sA 10 (upd (gA w 10) j1 ((gA w 10 j1) &&& (((1 : Int32) <<< ((I j2) &&& 31)) ^^^ (-1 : Int32)))) w))) hM_104 5 rfl ?_
  refine Ev.iast hM_104 rfl (a := 27) rfl (inb_I b2 (by decide)) (h' := hp E (sA 10 (upd (gA (sA 10 (upd (gA w 10) j1 ((gA w 10 j1) &&& (((1 : Int32) <<< ((I j2) &&& 31)) ^^^ (-1 : Int32)))) w) 10) j2 ((gA (sA 10 (upd (gA w 10) j1 ((gA w 10 j1) &&& (((1 : Int32) <<< ((I j2) &&& 31)) ^^^ (-1 : Int32)))) w) 10 j2) ||| ((1 : Int32) <<< ((I j1) &&& 31)))) (sA 10 (upd (gA w 10) j1 ((gA w 10 j1) &&& (((1 : Int32) <<< ((I j2) &&& 31)) ^^^ (-1 : Int32)))) w))) (by rw [I_clamp (Nat.lt_of_lt_of_le b2 (by decide))]; rfl) ?_
  refine Ev.run (c' := (70, [.ref 27, .int (I j1), .int (I j2), .int x3], [], hp E (sA 10 (upd (gA (sA 10 (upd (gA w 10) j1 ((gA w 10 j1) &&& (((1 : Int32) <<< ((I j2) &&& 31)) ^^^ (-1 : Int32)))) w) 10) j2 ((gA (sA 10 (upd (gA w 10) j1 ((gA w 10 j1) &&& (((1 : Int32) <<< ((I j2) &&& 31)) ^^^ (-1 : Int32)))) w) 10 j2) ||| ((1 : Int32) <<< ((I j1) &&& 31)))) (sA 10 (upd (gA w 10) j1 ((gA w 10 j1) &&& (((1 : Int32) <<< ((I j2) &&& 31)) ^^^ (-1 : Int32)))) w)))) hM_104 0 rfl ?_
  exact Ev.fin hM_104 rfl rfl
theorem p104_e_d {E : Nat × (Nat → Int32)} {w : Wd} {d : Nat} {x1 x2 x3 : Int32} {j1 : Nat} {j2 : Nat} {w' : Wd} (c1 : x3 = 0) (g1 : x1 = I j1) (b1 : j1 < 9) (c2 : x3 = 0) (g2 : x2 = I j2) (b2 : j2 < 9) (qw : (sA 10 (upd (gA (sA 10 (upd (gA w 10) j1 ((gA w 10 j1) &&& (((1 : Int32) <<< ((I j2) &&& 31)) ^^^ (-1 : Int32)))) w) 10) j2 ((gA (sA 10 (upd (gA w 10) j1 ((gA w 10 j1) &&& (((1 : Int32) <<< ((I j2) &&& 31)) ^^^ (-1 : Int32)))) w) 10 j2) &&& (((1 : Int32) <<< ((I j1) &&& 31)) ^^^ (-1 : Int32)))) (sA 10 (upd (gA w 10) j1 ((gA w 10 j1) &&& (((1 : Int32) <<< ((I j2) &&& 31)) ^^^ (-1 : Int32)))) w)) = w') : Ev d 104 (ent0 104 [.ref 27, .int x1, .int x2, .int x3] (hp E w)) (.inl none, hp E w') := by
  subst qw
  refine Ev.run (c' := (6, [.ref 27, .int x1, .int x2, .int x3], [.int x3, .int x1, .ref 28], hp E w)) hM_104 4 rfl ?_
  refine Ev.ifT hM_104 rfl (cI_eqT c1) ?_
  refine Ev.run (c' := (27, [.ref 27, .int x1, .int x2, .int x3], [.int x1, .ref 28, .int x1, .ref 28], hp E w)) hM_104 3 rfl ?_
  subst g1
  refine Ev.iald hM_104 rfl (a := 28) rfl (inb_I b1 (by decide)) ?_
  rw [I_clamp (Nat.lt_of_lt_of_le b1 (by decide))]
  refine Ev.run (c' := (34, [.ref 27, .int (I j1), .int x2, .int x3], [.int ((gA w 10 j1) &&& (((1 : Int32) <<< (x2 &&& 31)) ^^^ (-1 : Int32))), .int (I j1), .ref 28], hp E w)) hM_104 6 rfl ?_
  refine Ev.iast hM_104 rfl (a := 27) rfl (inb_I b1 (by decide)) (h' := hp E (sA 10 (upd (gA w 10) j1 ((gA w 10 j1) &&& (((1 : Int32) <<< (x2 &&& 31)) ^^^ (-1 : Int32)))) w)) (by rw [I_clamp (Nat.lt_of_lt_of_le b1 (by decide))]; rfl) ?_
  refine Ev.run (c' := (41, [.ref 27, .int (I j1), .int x2, .int x3], [.int x3, .int x2, .ref 28], hp E (sA 10 (upd (gA w 10) j1 ((gA w 10 j1) &&& (((1 : Int32) <<< (x2 &&& 31)) ^^^ (-1 : Int32)))) w))) hM_104 4 rfl ?_
  refine Ev.ifT hM_104 rfl (cI_eqT c2) ?_
  refine Ev.run (c' := (62, [.ref 27, .int (I j1), .int x2, .int x3], [.int x2, .ref 28, .int x2, .ref 28], hp E (sA 10 (upd (gA w 10) j1 ((gA w 10 j1) &&& (((1 : Int32) <<< (x2 &&& 31)) ^^^ (-1 : Int32)))) w))) hM_104 3 rfl ?_
  subst g2
  refine Ev.iald hM_104 rfl (a := 28) rfl (inb_I b2 (by decide)) ?_
  rw [I_clamp (Nat.lt_of_lt_of_le b2 (by decide))]
  refine Ev.run (c' := (69, [.ref 27, .int (I j1), .int (I j2), .int x3], [.int ((gA (sA 10 (upd (gA w 10) j1 ((gA w 10 j1) &&& (((1 : Int32) <<< ((I j2) &&& 31)) ^^^ (-1 : Int32)))) w) 10 j2) &&& (((1 : Int32) <<< ((I j1) &&& 31)) ^^^ (-1 : Int32))), .int (I j2), .ref 28], hp E (sA 10 (upd (gA w 10) j1 ((gA w 10 j1) &&& (((1 : Int32) <<< ((I j2) &&& 31)) ^^^ (-1 : Int32)))) w))) hM_104 6 rfl ?_
  refine Ev.iast hM_104 rfl (a := 27) rfl (inb_I b2 (by decide)) (h' := hp E (sA 10 (upd (gA (sA 10 (upd (gA w 10) j1 ((gA w 10 j1) &&& (((1 : Int32) <<< ((I j2) &&& 31)) ^^^ (-1 : Int32)))) w) 10) j2 ((gA (sA 10 (upd (gA w 10) j1 ((gA w 10 j1) &&& (((1 : Int32) <<< ((I j2) &&& 31)) ^^^ (-1 : Int32)))) w) 10 j2) &&& (((1 : Int32) <<< ((I j1) &&& 31)) ^^^ (-1 : Int32)))) (sA 10 (upd (gA w 10) j1 ((gA w 10 j1) &&& (((1 : Int32) <<< ((I j2) &&& 31)) ^^^ (-1 : Int32)))) w))) (by rw [I_clamp (Nat.lt_of_lt_of_le b2 (by decide))]; rfl) ?_
  refine Ev.run (c' := (70, [.ref 27, .int (I j1), .int (I j2), .int x3], [], hp E (sA 10 (upd (gA (sA 10 (upd (gA w 10) j1 ((gA w 10 j1) &&& (((1 : Int32) <<< ((I j2) &&& 31)) ^^^ (-1 : Int32)))) w) 10) j2 ((gA (sA 10 (upd (gA w 10) j1 ((gA w 10 j1) &&& (((1 : Int32) <<< ((I j2) &&& 31)) ^^^ (-1 : Int32)))) w) 10 j2) &&& (((1 : Int32) <<< ((I j1) &&& 31)) ^^^ (-1 : Int32)))) (sA 10 (upd (gA w 10) j1 ((gA w 10 j1) &&& (((1 : Int32) <<< ((I j2) &&& 31)) ^^^ (-1 : Int32)))) w)))) hM_104 0 rfl ?_
  exact Ev.fin hM_104 rfl rfl
theorem hM_105 : mAt 105 = some km_X8_family := rfl
theorem p105_e_a {E : Nat × (Nat → Int32)} {w : Wd} {d : Nat} {x1 : Int32} {w1 : Wd} {v1 : Int32} (hd : 1 ≤ d) (c1 : ¬ x1 < 0) (c2 : (3 : Int32) < x1) (h1 : Ev (d - 1) 97 (ent0 97 [.ref 27, .int (1 : Int32)] (hp E (sF 8 (0 : Int32) w))) (.inl (some (.int v1)), hp E w1)) : Ev d 105 (ent0 105 [.ref 27, .int x1] (hp E w)) (.inl (some (.int v1)), hp E w1) := by
  refine Ev.run (c' := (6, [.ref 27, .int x1, jk, jk, jk, jk], [.int x1], hp E (sF 8 (0 : Int32) w))) hM_105 4 rfl ?_
  refine Ev.ifF hM_105 rfl (cI_ltF c1) ?_
  refine Ev.run (c' := (11, [.ref 27, .int x1, jk, jk, jk, jk], [.int (3 : Int32), .int x1], hp E (sF 8 (0 : Int32) w))) hM_105 2 rfl ?_
  refine Ev.icF hM_105 rfl (cI_leF c2) ?_
  refine Ev.run (c' := (16, [.ref 27, .int x1, jk, jk, jk, jk], [.int (1 : Int32), .ref 27], hp E (sF 8 (0 : Int32) w))) hM_105 2 rfl ?_
  refine Ev.callR hd hM_105 rfl (y := 97) (as := [.ref 27, .int (1 : Int32)]) (rest := []) rfl (Nat.le_of_ble_eq_true rfl) h1 ?_
  refine Ev.run (c' := (19, [.ref 27, .int x1, jk, jk, jk, jk], [.int v1], hp E w1)) hM_105 0 rfl ?_
  exact Ev.fin hM_105 rfl rfl
theorem p105_e_b {E : Nat × (Nat → Int32)} {w : Wd} {d : Nat} {x1 : Int32} {w1 : Wd} {v1 : Int32} (hd : 1 ≤ d) (c1 : ¬ x1 < 0) (c2 : ¬ (3 : Int32) < x1) (c3 : x1 = (1 : Int32)) (c4 : (gF (sF 8 (0 : Int32) w) 9) < (3 : Int32)) (h1 : Ev (d - 1) 97 (ent0 97 [.ref 27, .int (2 : Int32)] (hp E (sF 8 (0 : Int32) w))) (.inl (some (.int v1)), hp E w1)) : Ev d 105 (ent0 105 [.ref 27, .int x1] (hp E w)) (.inl (some (.int v1)), hp E w1) := by
  refine Ev.run (c' := (6, [.ref 27, .int x1, jk, jk, jk, jk], [.int x1], hp E (sF 8 (0 : Int32) w))) hM_105 4 rfl ?_
  refine Ev.ifF hM_105 rfl (cI_ltF c1) ?_
  refine Ev.run (c' := (11, [.ref 27, .int x1, jk, jk, jk, jk], [.int (3 : Int32), .int x1], hp E (sF 8 (0 : Int32) w))) hM_105 2 rfl ?_
  refine Ev.icT hM_105 rfl (cI_leT c2) ?_
  refine Ev.run (c' := (22, [.ref 27, .int x1, jk, jk, jk, jk], [.int (1 : Int32), .int x1], hp E (sF 8 (0 : Int32) w))) hM_105 2 rfl ?_
  refine Ev.icF hM_105 rfl (cI_neF c3) ?_
  refine Ev.run (c' := (30, [.ref 27, .int x1, jk, jk, jk, jk], [.int (3 : Int32), .int (gF (sF 8 (0 : Int32) w) 9)], hp E (sF 8 (0 : Int32) w))) hM_105 3 rfl ?_
  refine Ev.icF hM_105 rfl (cI_geF c4) ?_
  refine Ev.run (c' := (35, [.ref 27, .int x1, jk, jk, jk, jk], [.int (2 : Int32), .ref 27], hp E (sF 8 (0 : Int32) w))) hM_105 2 rfl ?_
  refine Ev.callR hd hM_105 rfl (y := 97) (as := [.ref 27, .int (2 : Int32)]) (rest := []) rfl (Nat.le_of_ble_eq_true rfl) h1 ?_
  refine Ev.run (c' := (38, [.ref 27, .int x1, jk, jk, jk, jk], [.int v1], hp E w1)) hM_105 0 rfl ?_
  exact Ev.fin hM_105 rfl rfl
theorem p105_e_c {E : Nat × (Nat → Int32)} {w : Wd} {d : Nat} {x1 : Int32} {o : Ou} {w1 : Wd} (hd : 1 ≤ d) (c1 : ¬ x1 < 0) (c2 : ¬ (3 : Int32) < x1) (c3 : x1 = (1 : Int32)) (c4 : ¬ (gF (sF 8 (0 : Int32) w) 9) < (3 : Int32)) (h1 : Ev (d - 1) 101 (ent0 101 [.ref 27] (hp E (sF 8 (0 : Int32) w))) (.inl none, hp E w1)) (e : Ev d 105 (45, [.ref 27, .int x1, .int (0 : Int32), jk, jk, jk], [], hp E w1) o) : Ev d 105 (ent0 105 [.ref 27, .int x1] (hp E w)) o := by
  refine Ev.run (c' := (6, [.ref 27, .int x1, jk, jk, jk, jk], [.int x1], hp E (sF 8 (0 : Int32) w))) hM_105 4 rfl ?_
  refine Ev.ifF hM_105 rfl (cI_ltF c1) ?_
  refine Ev.run (c' := (11, [.ref 27, .int x1, jk, jk, jk, jk], [.int (3 : Int32), .int x1], hp E (sF 8 (0 : Int32) w))) hM_105 2 rfl ?_
  refine Ev.icT hM_105 rfl (cI_leT c2) ?_
  refine Ev.run (c' := (22, [.ref 27, .int x1, jk, jk, jk, jk], [.int (1 : Int32), .int x1], hp E (sF 8 (0 : Int32) w))) hM_105 2 rfl ?_
  refine Ev.icF hM_105 rfl (cI_neF c3) ?_
  refine Ev.run (c' := (30, [.ref 27, .int x1, jk, jk, jk, jk], [.int (3 : Int32), .int (gF (sF 8 (0 : Int32) w) 9)], hp E (sF 8 (0 : Int32) w))) hM_105 3 rfl ?_
  refine Ev.icT hM_105 rfl (cI_geT c4) ?_
  refine Ev.run (c' := (40, [.ref 27, .int x1, jk, jk, jk, jk], [.ref 27], hp E (sF 8 (0 : Int32) w))) hM_105 1 rfl ?_
  refine Ev.callR hd hM_105 rfl (y := 101) (as := [.ref 27]) (rest := []) rfl (Nat.le_of_ble_eq_true rfl) h1 ?_
  refine Ev.run (c' := (45, [.ref 27, .int x1, .int (0 : Int32), jk, jk, jk], [], hp E w1)) hM_105 2 rfl ?_
  exact e
theorem p105_e_d {E : Nat × (Nat → Int32)} {w : Wd} {d : Nat} {x1 : Int32} {o : Ou} {w1 : Wd} (hd : 1 ≤ d) (c1 : ¬ x1 < 0) (c2 : ¬ (3 : Int32) < x1) (c3 : ¬ x1 = (1 : Int32)) (h1 : Ev (d - 1) 101 (ent0 101 [.ref 27] (hp E (sF 8 (0 : Int32) w))) (.inl none, hp E w1)) (e : Ev d 105 (45, [.ref 27, .int x1, .int (0 : Int32), jk, jk, jk], [], hp E w1) o) : Ev d 105 (ent0 105 [.ref 27, .int x1] (hp E w)) o := by
  refine Ev.run (c' := (6, [.ref 27, .int x1, jk, jk, jk, jk], [.int x1], hp E (sF 8 (0 : Int32) w))) hM_105 4 rfl ?_
  refine Ev.ifF hM_105 rfl (cI_ltF c1) ?_
  refine Ev.run (c' := (11, [.ref 27, .int x1, jk, jk, jk, jk], [.int (3 : Int32), .int x1], hp E (sF 8 (0 : Int32) w))) hM_105 2 rfl ?_
  refine Ev.icT hM_105 rfl (cI_leT c2) ?_
  refine Ev.run (c' := (22, [.ref 27, .int x1, jk, jk, jk, jk], [.int (1 : Int32), .int x1], hp E (sF 8 (0 : Int32) w))) hM_105 2 rfl ?_
  refine Ev.icT hM_105 rfl (cI_neT c3) ?_
  refine Ev.run (c' := (40, [.ref 27, .int x1, jk, jk, jk, jk], [.ref 27], hp E (sF 8 (0 : Int32) w))) hM_105 1 rfl ?_
  refine Ev.callR hd hM_105 rfl (y := 101) (as := [.ref 27]) (rest := []) rfl (Nat.le_of_ble_eq_true rfl) h1 ?_
  refine Ev.run (c' := (45, [.ref 27, .int x1, .int (0 : Int32), jk, jk, jk], [], hp E w1)) hM_105 2 rfl ?_
  exact e
theorem p105_e_e {E : Nat × (Nat → Int32)} {w : Wd} {d : Nat} {x1 : Int32} {w1 : Wd} {v1 : Int32} (hd : 1 ≤ d) (c1 : x1 < 0) (h1 : Ev (d - 1) 97 (ent0 97 [.ref 27, .int (1 : Int32)] (hp E (sF 8 (0 : Int32) w))) (.inl (some (.int v1)), hp E w1)) : Ev d 105 (ent0 105 [.ref 27, .int x1] (hp E w)) (.inl (some (.int v1)), hp E w1) := by
  refine Ev.run (c' := (6, [.ref 27, .int x1, jk, jk, jk, jk], [.int x1], hp E (sF 8 (0 : Int32) w))) hM_105 4 rfl ?_
  refine Ev.ifT hM_105 rfl (cI_ltT c1) ?_
  refine Ev.run (c' := (16, [.ref 27, .int x1, jk, jk, jk, jk], [.int (1 : Int32), .ref 27], hp E (sF 8 (0 : Int32) w))) hM_105 2 rfl ?_
  refine Ev.callR hd hM_105 rfl (y := 97) (as := [.ref 27, .int (1 : Int32)]) (rest := []) rfl (Nat.le_of_ble_eq_true rfl) h1 ?_
  refine Ev.run (c' := (19, [.ref 27, .int x1, jk, jk, jk, jk], [.int v1], hp E w1)) hM_105 0 rfl ?_
  exact Ev.fin hM_105 rfl rfl
theorem p105_45_a {E : Nat × (Nat → Int32)} {w : Wd} {d : Nat} {x1 x2 : Int32} {u3 u4 u5 : Value} {o : Ou} {y3 : Int32} (c1 : x2 < (gF w 9)) (q3 : (x2 + (1 : Int32)) = y3) (e : Ev d 105 (57, [.ref 27, .int x1, .int x2, .int y3, u4, u5], [], hp E w) o) : Ev d 105 (45, [.ref 27, .int x1, .int x2, u3, u4, u5], [], hp E w) o := by
  subst q3
  refine Ev.run (c' := (50, [.ref 27, .int x1, .int x2, u3, u4, u5], [.int (gF w 9), .int x2], hp E w)) hM_105 3 rfl ?_
  refine Ev.icF hM_105 rfl (cI_geF c1) ?_
  refine Ev.run (c' := (57, [.ref 27, .int x1, .int x2, .int (x2 + (1 : Int32)), u4, u5], [], hp E w)) hM_105 4 rfl ?_
  exact e
theorem p105_45_b {E : Nat × (Nat → Int32)} {w : Wd} {d : Nat} {x1 x2 : Int32} {u3 u4 u5 : Value} {w1 : Wd} {v1 : Int32} (hd : 1 ≤ d) (c1 : ¬ x2 < (gF w 9)) (h1 : Ev (d - 1) 103 (ent0 103 [.ref 27] (hp E w)) (.inl (some (.int v1)), hp E w1)) : Ev d 105 (45, [.ref 27, .int x1, .int x2, u3, u4, u5], [], hp E w) (.inl (some (.int v1)), hp E w1) := by
  refine Ev.run (c' := (50, [.ref 27, .int x1, .int x2, u3, u4, u5], [.int (gF w 9), .int x2], hp E w)) hM_105 3 rfl ?_
  refine Ev.icT hM_105 rfl (cI_geT c1) ?_
  refine Ev.run (c' := (158, [.ref 27, .int x1, .int x2, u3, u4, u5], [.ref 27], hp E w)) hM_105 1 rfl ?_
  refine Ev.callR hd hM_105 rfl (y := 103) (as := [.ref 27]) (rest := []) rfl (Nat.le_of_ble_eq_true rfl) h1 ?_
  refine Ev.run (c' := (161, [.ref 27, .int x1, .int x2, u3, u4, u5], [.int v1], hp E w1)) hM_105 0 rfl ?_
  exact Ev.fin hM_105 rfl rfl
theorem p105_57_a {E : Nat × (Nat → Int32)} {w : Wd} {d : Nat} {x1 x2 x3 : Int32} {u4 u5 : Value} {o : Ou}  (c1 : x3 < (gF w 9)) (c2 : x3 = (x2 + (1 : Int32))) (e : Ev d 105 (79, [.ref 27, .int x1, .int x2, .int x3, .int (1 : Int32), u5], [], hp E w) o) : Ev d 105 (57, [.ref 27, .int x1, .int x2, .int x3, u4, u5], [], hp E w) o := by
  refine Ev.run (c' := (62, [.ref 27, .int x1, .int x2, .int x3, u4, u5], [.int (gF w 9), .int x3], hp E w)) hM_105 3 rfl ?_
  refine Ev.icF hM_105 rfl (cI_geF c1) ?_
  refine Ev.run (c' := (69, [.ref 27, .int x1, .int x2, .int x3, u4, u5], [.int (x2 + (1 : Int32)), .int x3], hp E w)) hM_105 4 rfl ?_
  refine Ev.icF hM_105 rfl (cI_neF c2) ?_
  refine Ev.run (c' := (79, [.ref 27, .int x1, .int x2, .int x3, .int (1 : Int32), u5], [], hp E w)) hM_105 3 rfl ?_
  exact e
theorem p105_57_b {E : Nat × (Nat → Int32)} {w : Wd} {d : Nat} {x1 x2 x3 : Int32} {u4 u5 : Value} {o : Ou}  (c1 : x3 < (gF w 9)) (c2 : ¬ x3 = (x2 + (1 : Int32))) (e : Ev d 105 (79, [.ref 27, .int x1, .int x2, .int x3, .int (0 : Int32), u5], [], hp E w) o) : Ev d 105 (57, [.ref 27, .int x1, .int x2, .int x3, u4, u5], [], hp E w) o := by
  refine Ev.run (c' := (62, [.ref 27, .int x1, .int x2, .int x3, u4, u5], [.int (gF w 9), .int x3], hp E w)) hM_105 3 rfl ?_
  refine Ev.icF hM_105 rfl (cI_geF c1) ?_
  refine Ev.run (c' := (69, [.ref 27, .int x1, .int x2, .int x3, u4, u5], [.int (x2 + (1 : Int32)), .int x3], hp E w)) hM_105 4 rfl ?_
  refine Ev.icT hM_105 rfl (cI_neT c2) ?_
  refine Ev.run (c' := (79, [.ref 27, .int x1, .int x2, .int x3, .int (0 : Int32), u5], [], hp E w)) hM_105 2 rfl ?_
  exact e
theorem p105_57_c {E : Nat × (Nat → Int32)} {w : Wd} {d : Nat} {x1 x2 x3 : Int32} {u4 u5 : Value} {o : Ou} {y2 : Int32} (c1 : ¬ x3 < (gF w 9)) (q2 : (x2 + (1 : Int32)) = y2) (e : Ev d 105 (45, [.ref 27, .int x1, .int y2, .int x3, u4, u5], [], hp E w) o) : Ev d 105 (57, [.ref 27, .int x1, .int x2, .int x3, u4, u5], [], hp E w) o := by
  subst q2
  refine Ev.run (c' := (62, [.ref 27, .int x1, .int x2, .int x3, u4, u5], [.int (gF w 9), .int x3], hp E w)) hM_105 3 rfl ?_
  refine Ev.icT hM_105 rfl (cI_geT c1) ?_
  refine Ev.run (c' := (45, [.ref 27, .int x1, .int (x2 + (1 : Int32)), .int x3, u4, u5], [], hp E w)) hM_105 2 rfl ?_
  exact e
theorem p105_79_a {E : Nat × (Nat → Int32)} {w : Wd} {d : Nat} {x1 x2 x3 x4 : Int32} {u5 : Value} {o : Ou}  (c1 : ¬ x1 = (3 : Int32)) (c2 : x1 = (2 : Int32)) (c3 : ¬ x2 = 0) (c4 : x1 = 0) (c5 : x4 = 0) (c6 : x1 = (1 : Int32)) (c7 : x4 = 0) (c8 : x2 = 0) (c9 : x3 = ((gF w 9) - (1 : Int32))) (e : Ev d 105 (133, [.ref 27, .int x1, .int x2, .int x3, .int x4, .int (1 : Int32)], [], hp E w) o) : Ev d 105 (79, [.ref 27, .int x1, .int x2, .int x3, .int x4, u5], [], hp E w) o := by
  refine Ev.run (c' := (81, [.ref 27, .int x1, .int x2, .int x3, .int x4, u5], [.int (3 : Int32), .int x1], hp E w)) hM_105 2 rfl ?_
  refine Ev.icF hM_105 rfl (cI_eqF c1) ?_
  refine Ev.run (c' := (86, [.ref 27, .int x1, .int x2, .int x3, .int x4, u5], [.int (2 : Int32), .int x1], hp E w)) hM_105 2 rfl ?_
  refine Ev.icF hM_105 rfl (cI_neF c2) ?_
  refine Ev.run (c' := (90, [.ref 27, .int x1, .int x2, .int x3, .int x4, u5], [.int x2], hp E w)) hM_105 1 rfl ?_
  refine Ev.ifF hM_105 rfl (cI_eqF c3) ?_
  refine Ev.run (c' := (94, [.ref 27, .int x1, .int x2, .int x3, .int x4, u5], [.int x1], hp E w)) hM_105 1 rfl ?_
  refine Ev.ifF hM_105 rfl (cI_neF c4) ?_
  refine Ev.run (c' := (99, [.ref 27, .int x1, .int x2, .int x3, .int x4, u5], [.int x4], hp E w)) hM_105 1 rfl ?_
  refine Ev.ifF hM_105 rfl (cI_neF c5) ?_
  refine Ev.run (c' := (104, [.ref 27, .int x1, .int x2, .int x3, .int x4, u5], [.int (1 : Int32), .int x1], hp E w)) hM_105 2 rfl ?_
  refine Ev.icF hM_105 rfl (cI_neF c6) ?_
  refine Ev.run (c' := (109, [.ref 27, .int x1, .int x2, .int x3, .int x4, u5], [.int x4], hp E w)) hM_105 1 rfl ?_
  refine Ev.ifF hM_105 rfl (cI_neF c7) ?_
  refine Ev.run (c' := (113, [.ref 27, .int x1, .int x2, .int x3, .int x4, u5], [.int x2], hp E w)) hM_105 1 rfl ?_
  refine Ev.ifF hM_105 rfl (cI_neF c8) ?_
  refine Ev.run (c' := (123, [.ref 27, .int x1, .int x2, .int x3, .int x4, u5], [.int ((gF w 9) - (1 : Int32)), .int x3], hp E w)) hM_105 5 rfl ?_
  refine Ev.icF hM_105 rfl (cI_neF c9) ?_
  refine Ev.run (c' := (133, [.ref 27, .int x1, .int x2, .int x3, .int x4, .int (1 : Int32)], [], hp E w)) hM_105 3 rfl ?_
  exact e
theorem p105_79_b {E : Nat × (Nat → Int32)} {w : Wd} {d : Nat} {x1 x2 x3 x4 : Int32} {u5 : Value} {o : Ou}  (c1 : ¬ x1 = (3 : Int32)) (c2 : x1 = (2 : Int32)) (c3 : ¬ x2 = 0) (c4 : x1 = 0) (c5 : x4 = 0) (c6 : x1 = (1 : Int32)) (c7 : x4 = 0) (c8 : x2 = 0) (c9 : ¬ x3 = ((gF w 9) - (1 : Int32))) (e : Ev d 105 (133, [.ref 27, .int x1, .int x2, .int x3, .int x4, .int (0 : Int32)], [], hp E w) o) : Ev d 105 (79, [.ref 27, .int x1, .int x2, .int x3, .int x4, u5], [], hp E w) o := by
  refine Ev.run (c' := (81, [.ref 27, .int x1, .int x2, .int x3, .int x4, u5], [.int (3 : Int32), .int x1], hp E w)) hM_105 2 rfl ?_
  refine Ev.icF hM_105 rfl (cI_eqF c1) ?_
  refine Ev.run (c' := (86, [.ref 27, .int x1, .int x2, .int x3, .int x4, u5], [.int (2 : Int32), .int x1], hp E w)) hM_105 2 rfl ?_
  refine Ev.icF hM_105 rfl (cI_neF c2) ?_
  refine Ev.run (c' := (90, [.ref 27, .int x1, .int x2, .int x3, .int x4, u5], [.int x2], hp E w)) hM_105 1 rfl ?_
  refine Ev.ifF hM_105 rfl (cI_eqF c3) ?_
  refine Ev.run (c' := (94, [.ref 27, .int x1, .int x2, .int x3, .int x4, u5], [.int x1], hp E w)) hM_105 1 rfl ?_
  refine Ev.ifF hM_105 rfl (cI_neF c4) ?_
  refine Ev.run (c' := (99, [.ref 27, .int x1, .int x2, .int x3, .int x4, u5], [.int x4], hp E w)) hM_105 1 rfl ?_
  refine Ev.ifF hM_105 rfl (cI_neF c5) ?_
  refine Ev.run (c' := (104, [.ref 27, .int x1, .int x2, .int x3, .int x4, u5], [.int (1 : Int32), .int x1], hp E w)) hM_105 2 rfl ?_
  refine Ev.icF hM_105 rfl (cI_neF c6) ?_
  refine Ev.run (c' := (109, [.ref 27, .int x1, .int x2, .int x3, .int x4, u5], [.int x4], hp E w)) hM_105 1 rfl ?_
  refine Ev.ifF hM_105 rfl (cI_neF c7) ?_
  refine Ev.run (c' := (113, [.ref 27, .int x1, .int x2, .int x3, .int x4, u5], [.int x2], hp E w)) hM_105 1 rfl ?_
  refine Ev.ifF hM_105 rfl (cI_neF c8) ?_
  refine Ev.run (c' := (123, [.ref 27, .int x1, .int x2, .int x3, .int x4, u5], [.int ((gF w 9) - (1 : Int32)), .int x3], hp E w)) hM_105 5 rfl ?_
  refine Ev.icT hM_105 rfl (cI_neT c9) ?_
  refine Ev.run (c' := (133, [.ref 27, .int x1, .int x2, .int x3, .int x4, .int (0 : Int32)], [], hp E w)) hM_105 2 rfl ?_
  exact e
theorem p105_79_c {E : Nat × (Nat → Int32)} {w : Wd} {d : Nat} {x1 x2 x3 x4 : Int32} {u5 : Value} {o : Ou}  (c1 : ¬ x1 = (3 : Int32)) (c2 : x1 = (2 : Int32)) (c3 : ¬ x2 = 0) (c4 : x1 = 0) (c5 : x4 = 0) (c6 : x1 = (1 : Int32)) (c7 : x4 = 0) (c8 : ¬ x2 = 0) (e : Ev d 105 (133, [.ref 27, .int x1, .int x2, .int x3, .int x4, .int (0 : Int32)], [], hp E w) o) : Ev d 105 (79, [.ref 27, .int x1, .int x2, .int x3, .int x4, u5], [], hp E w) o := by
  refine Ev.run (c' := (81, [.ref 27, .int x1, .int x2, .int x3, .int x4, u5], [.int (3 : Int32), .int x1], hp E w)) hM_105 2 rfl ?_
  refine Ev.icF hM_105 rfl (cI_eqF c1) ?_
  refine Ev.run (c' := (86, [.ref 27, .int x1, .int x2, .int x3, .int x4, u5], [.int (2 : Int32), .int x1], hp E w)) hM_105 2 rfl ?_
  refine Ev.icF hM_105 rfl (cI_neF c2) ?_
  refine Ev.run (c' := (90, [.ref 27, .int x1, .int x2, .int x3, .int x4, u5], [.int x2], hp E w)) hM_105 1 rfl ?_
  refine Ev.ifF hM_105 rfl (cI_eqF c3) ?_
  refine Ev.run (c' := (94, [.ref 27, .int x1, .int x2, .int x3, .int x4, u5], [.int x1], hp E w)) hM_105 1 rfl ?_
  refine Ev.ifF hM_105 rfl (cI_neF c4) ?_
  refine Ev.run (c' := (99, [.ref 27, .int x1, .int x2, .int x3, .int x4, u5], [.int x4], hp E w)) hM_105 1 rfl ?_
  refine Ev.ifF hM_105 rfl (cI_neF c5) ?_
  refine Ev.run (c' := (104, [.ref 27, .int x1, .int x2, .int x3, .int x4, u5], [.int (1 : Int32), .int x1], hp E w)) hM_105 2 rfl ?_
  refine Ev.icF hM_105 rfl (cI_neF c6) ?_
  refine Ev.run (c' := (109, [.ref 27, .int x1, .int x2, .int x3, .int x4, u5], [.int x4], hp E w)) hM_105 1 rfl ?_
  refine Ev.ifF hM_105 rfl (cI_neF c7) ?_
  refine Ev.run (c' := (113, [.ref 27, .int x1, .int x2, .int x3, .int x4, u5], [.int x2], hp E w)) hM_105 1 rfl ?_
  refine Ev.ifT hM_105 rfl (cI_neT c8) ?_
  refine Ev.run (c' := (133, [.ref 27, .int x1, .int x2, .int x3, .int x4, .int (0 : Int32)], [], hp E w)) hM_105 2 rfl ?_
  exact e
theorem p105_79_d {E : Nat × (Nat → Int32)} {w : Wd} {d : Nat} {x1 x2 x3 x4 : Int32} {u5 : Value} {o : Ou}  (c1 : ¬ x1 = (3 : Int32)) (c2 : x1 = (2 : Int32)) (c3 : ¬ x2 = 0) (c4 : x1 = 0) (c5 : x4 = 0) (c6 : x1 = (1 : Int32)) (c7 : ¬ x4 = 0) (e : Ev d 105 (133, [.ref 27, .int x1, .int x2, .int x3, .int x4, .int (1 : Int32)], [], hp E w) o) : Ev d 105 (79, [.ref 27, .int x1, .int x2, .int x3, .int x4, u5], [], hp E w) o := by
  refine Ev.run (c' := (81, [.ref 27, .int x1, .int x2, .int x3, .int x4, u5], [.int (3 : Int32), .int x1], hp E w)) hM_105 2 rfl ?_
  refine Ev.icF hM_105 rfl (cI_eqF c1) ?_
  refine Ev.run (c' := (86, [.ref 27, .int x1, .int x2, .int x3, .int x4, u5], [.int (2 : Int32), .int x1], hp E w)) hM_105 2 rfl ?_
  refine Ev.icF hM_105 rfl (cI_neF c2) ?_
  refine Ev.run (c' := (90, [.ref 27, .int x1, .int x2, .int x3, .int x4, u5], [.int x2], hp E w)) hM_105 1 rfl ?_
  refine Ev.ifF hM_105 rfl (cI_eqF c3) ?_
  refine Ev.run (c' := (94, [.ref 27, .int x1, .int x2, .int x3, .int x4, u5], [.int x1], hp E w)) hM_105 1 rfl ?_
  refine Ev.ifF hM_105 rfl (cI_neF c4) ?_
  refine Ev.run (c' := (99, [.ref 27, .int x1, .int x2, .int x3, .int x4, u5], [.int x4], hp E w)) hM_105 1 rfl ?_
  refine Ev.ifF hM_105 rfl (cI_neF c5) ?_
  refine Ev.run (c' := (104, [.ref 27, .int x1, .int x2, .int x3, .int x4, u5], [.int (1 : Int32), .int x1], hp E w)) hM_105 2 rfl ?_
  refine Ev.icF hM_105 rfl (cI_neF c6) ?_
  refine Ev.run (c' := (109, [.ref 27, .int x1, .int x2, .int x3, .int x4, u5], [.int x4], hp E w)) hM_105 1 rfl ?_
  refine Ev.ifT hM_105 rfl (cI_neT c7) ?_
  refine Ev.run (c' := (133, [.ref 27, .int x1, .int x2, .int x3, .int x4, .int (1 : Int32)], [], hp E w)) hM_105 3 rfl ?_
  exact e
theorem p105_79_e {E : Nat × (Nat → Int32)} {w : Wd} {d : Nat} {x1 x2 x3 x4 : Int32} {u5 : Value} {o : Ou}  (c1 : ¬ x1 = (3 : Int32)) (c2 : x1 = (2 : Int32)) (c3 : ¬ x2 = 0) (c4 : x1 = 0) (c5 : x4 = 0) (c6 : ¬ x1 = (1 : Int32)) (e : Ev d 105 (133, [.ref 27, .int x1, .int x2, .int x3, .int x4, .int (0 : Int32)], [], hp E w) o) : Ev d 105 (79, [.ref 27, .int x1, .int x2, .int x3, .int x4, u5], [], hp E w) o := by
  refine Ev.run (c' := (81, [.ref 27, .int x1, .int x2, .int x3, .int x4, u5], [.int (3 : Int32), .int x1], hp E w)) hM_105 2 rfl ?_
  refine Ev.icF hM_105 rfl (cI_eqF c1) ?_
  refine Ev.run (c' := (86, [.ref 27, .int x1, .int x2, .int x3, .int x4, u5], [.int (2 : Int32), .int x1], hp E w)) hM_105 2 rfl ?_
  refine Ev.icF hM_105 rfl (cI_neF c2) ?_
  refine Ev.run (c' := (90, [.ref 27, .int x1, .int x2, .int x3, .int x4, u5], [.int x2], hp E w)) hM_105 1 rfl ?_
  refine Ev.ifF hM_105 rfl (cI_eqF c3) ?_
  refine Ev.run (c' := (94, [.ref 27, .int x1, .int x2, .int x3, .int x4, u5], [.int x1], hp E w)) hM_105 1 rfl ?_
  refine Ev.ifF hM_105 rfl (cI_neF c4) ?_
  refine Ev.run (c' := (99, [.ref 27, .int x1, .int x2, .int x3, .int x4, u5], [.int x4], hp E w)) hM_105 1 rfl ?_
  refine Ev.ifF hM_105 rfl (cI_neF c5) ?_
  refine Ev.run (c' := (104, [.ref 27, .int x1, .int x2, .int x3, .int x4, u5], [.int (1 : Int32), .int x1], hp E w)) hM_105 2 rfl ?_
  refine Ev.icT hM_105 rfl (cI_neT c6) ?_
  refine Ev.run (c' := (133, [.ref 27, .int x1, .int x2, .int x3, .int x4, .int (0 : Int32)], [], hp E w)) hM_105 2 rfl ?_
  exact e
theorem p105_79_f {E : Nat × (Nat → Int32)} {w : Wd} {d : Nat} {x1 x2 x3 x4 : Int32} {u5 : Value} {o : Ou}  (c1 : ¬ x1 = (3 : Int32)) (c2 : x1 = (2 : Int32)) (c3 : ¬ x2 = 0) (c4 : x1 = 0) (c5 : ¬ x4 = 0) (e : Ev d 105 (133, [.ref 27, .int x1, .int x2, .int x3, .int x4, .int (1 : Int32)], [], hp E w) o) : Ev d 105 (79, [.ref 27, .int x1, .int x2, .int x3, .int x4, u5], [], hp E w) o := by
  refine Ev.run (c' := (81, [.ref 27, .int x1, .int x2, .int x3, .int x4, u5], [.int (3 : Int32), .int x1], hp E w)) hM_105 2 rfl ?_
  refine Ev.icF hM_105 rfl (cI_eqF c1) ?_
  refine Ev.run (c' := (86, [.ref 27, .int x1, .int x2, .int x3, .int x4, u5], [.int (2 : Int32), .int x1], hp E w)) hM_105 2 rfl ?_
  refine Ev.icF hM_105 rfl (cI_neF c2) ?_
  refine Ev.run (c' := (90, [.ref 27, .int x1, .int x2, .int x3, .int x4, u5], [.int x2], hp E w)) hM_105 1 rfl ?_
  refine Ev.ifF hM_105 rfl (cI_eqF c3) ?_
  refine Ev.run (c' := (94, [.ref 27, .int x1, .int x2, .int x3, .int x4, u5], [.int x1], hp E w)) hM_105 1 rfl ?_
  refine Ev.ifF hM_105 rfl (cI_neF c4) ?_
  refine Ev.run (c' := (99, [.ref 27, .int x1, .int x2, .int x3, .int x4, u5], [.int x4], hp E w)) hM_105 1 rfl ?_
  refine Ev.ifT hM_105 rfl (cI_neT c5) ?_
  refine Ev.run (c' := (133, [.ref 27, .int x1, .int x2, .int x3, .int x4, .int (1 : Int32)], [], hp E w)) hM_105 3 rfl ?_
  exact e
theorem p105_79_g {E : Nat × (Nat → Int32)} {w : Wd} {d : Nat} {x1 x2 x3 x4 : Int32} {u5 : Value} {o : Ou}  (c1 : ¬ x1 = (3 : Int32)) (c2 : x1 = (2 : Int32)) (c3 : ¬ x2 = 0) (c4 : ¬ x1 = 0) (c5 : x1 = (1 : Int32)) (c6 : x4 = 0) (c7 : x2 = 0) (c8 : x3 = ((gF w 9) - (1 : Int32))) (e : Ev d 105 (133, [.ref 27, .int x1, .int x2, .int x3, .int x4, .int (1 : Int32)], [], hp E w) o) : Ev d 105 (79, [.ref 27, .int x1, .int x2, .int x3, .int x4, u5], [], hp E w) o := by
  refine Ev.run (c' := (81, [.ref 27, .int x1, .int x2, .int x3, .int x4, u5], [.int (3 : Int32), .int x1], hp E w)) hM_105 2 rfl ?_
  refine Ev.icF hM_105 rfl (cI_eqF c1) ?_
  refine Ev.run (c' := (86, [.ref 27, .int x1, .int x2, .int x3, .int x4, u5], [.int (2 : Int32), .int x1], hp E w)) hM_105 2 rfl ?_
  refine Ev.icF hM_105 rfl (cI_neF c2) ?_
  refine Ev.run (c' := (90, [.ref 27, .int x1, .int x2, .int x3, .int x4, u5], [.int x2], hp E w)) hM_105 1 rfl ?_
  refine Ev.ifF hM_105 rfl (cI_eqF c3) ?_
  refine Ev.run (c' := (94, [.ref 27, .int x1, .int x2, .int x3, .int x4, u5], [.int x1], hp E w)) hM_105 1 rfl ?_
  refine Ev.ifT hM_105 rfl (cI_neT c4) ?_
  refine Ev.run (c' := (104, [.ref 27, .int x1, .int x2, .int x3, .int x4, u5], [.int (1 : Int32), .int x1], hp E w)) hM_105 2 rfl ?_
  refine Ev.icF hM_105 rfl (cI_neF c5) ?_
  refine Ev.run (c' := (109, [.ref 27, .int x1, .int x2, .int x3, .int x4, u5], [.int x4], hp E w)) hM_105 1 rfl ?_
  refine Ev.ifF hM_105 rfl (cI_neF c6) ?_
  refine Ev.run (c' := (113, [.ref 27, .int x1, .int x2, .int x3, .int x4, u5], [.int x2], hp E w)) hM_105 1 rfl ?_
  refine Ev.ifF hM_105 rfl (cI_neF c7) ?_
  refine Ev.run (c' := (123, [.ref 27, .int x1, .int x2, .int x3, .int x4, u5], [.int ((gF w 9) - (1 : Int32)), .int x3], hp E w)) hM_105 5 rfl ?_
  refine Ev.icF hM_105 rfl (cI_neF c8) ?_
  refine Ev.run (c' := (133, [.ref 27, .int x1, .int x2, .int x3, .int x4, .int (1 : Int32)], [], hp E w)) hM_105 3 rfl ?_
  exact e
theorem p105_79_h {E : Nat × (Nat → Int32)} {w : Wd} {d : Nat} {x1 x2 x3 x4 : Int32} {u5 : Value} {o : Ou}  (c1 : ¬ x1 = (3 : Int32)) (c2 : x1 = (2 : Int32)) (c3 : ¬ x2 = 0) (c4 : ¬ x1 = 0) (c5 : x1 = (1 : Int32)) (c6 : x4 = 0) (c7 : x2 = 0) (c8 : ¬ x3 = ((gF w 9) - (1 : Int32))) (e : Ev d 105 (133, [.ref 27, .int x1, .int x2, .int x3, .int x4, .int (0 : Int32)], [], hp E w) o) : Ev d 105 (79, [.ref 27, .int x1, .int x2, .int x3, .int x4, u5], [], hp E w) o := by
  refine Ev.run (c' := (81, [.ref 27, .int x1, .int x2, .int x3, .int x4, u5], [.int (3 : Int32), .int x1], hp E w)) hM_105 2 rfl ?_
  refine Ev.icF hM_105 rfl (cI_eqF c1) ?_
  refine Ev.run (c' := (86, [.ref 27, .int x1, .int x2, .int x3, .int x4, u5], [.int (2 : Int32), .int x1], hp E w)) hM_105 2 rfl ?_
  refine Ev.icF hM_105 rfl (cI_neF c2) ?_
  refine Ev.run (c' := (90, [.ref 27, .int x1, .int x2, .int x3, .int x4, u5], [.int x2], hp E w)) hM_105 1 rfl ?_
  refine Ev.ifF hM_105 rfl (cI_eqF c3) ?_
  refine Ev.run (c' := (94, [.ref 27, .int x1, .int x2, .int x3, .int x4, u5], [.int x1], hp E w)) hM_105 1 rfl ?_
  refine Ev.ifT hM_105 rfl (cI_neT c4) ?_
  refine Ev.run (c' := (104, [.ref 27, .int x1, .int x2, .int x3, .int x4, u5], [.int (1 : Int32), .int x1], hp E w)) hM_105 2 rfl ?_
  refine Ev.icF hM_105 rfl (cI_neF c5) ?_
  refine Ev.run (c' := (109, [.ref 27, .int x1, .int x2, .int x3, .int x4, u5], [.int x4], hp E w)) hM_105 1 rfl ?_
  refine Ev.ifF hM_105 rfl (cI_neF c6) ?_
  refine Ev.run (c' := (113, [.ref 27, .int x1, .int x2, .int x3, .int x4, u5], [.int x2], hp E w)) hM_105 1 rfl ?_
  refine Ev.ifF hM_105 rfl (cI_neF c7) ?_
  refine Ev.run (c' := (123, [.ref 27, .int x1, .int x2, .int x3, .int x4, u5], [.int ((gF w 9) - (1 : Int32)), .int x3], hp E w)) hM_105 5 rfl ?_
  refine Ev.icT hM_105 rfl (cI_neT c8) ?_
  refine Ev.run (c' := (133, [.ref 27, .int x1, .int x2, .int x3, .int x4, .int (0 : Int32)], [], hp E w)) hM_105 2 rfl ?_
  exact e
theorem p105_79_i {E : Nat × (Nat → Int32)} {w : Wd} {d : Nat} {x1 x2 x3 x4 : Int32} {u5 : Value} {o : Ou}  (c1 : ¬ x1 = (3 : Int32)) (c2 : x1 = (2 : Int32)) (c3 : ¬ x2 = 0) (c4 : ¬ x1 = 0) (c5 : x1 = (1 : Int32)) (c6 : x4 = 0) (c7 : ¬ x2 = 0) (e : Ev d 105 (133, [.ref 27, .int x1, .int x2, .int x3, .int x4, .int (0 : Int32)], [], hp E w) o) : Ev d 105 (79, [.ref 27, .int x1, .int x2, .int x3, .int x4, u5], [], hp E w) o := by
  refine Ev.run (c' := (81, [.ref 27, .int x1, .int x2, .int x3, .int x4, u5], [.int (3 : Int32), .int x1], hp E w)) hM_105 2 rfl ?_
  refine Ev.icF hM_105 rfl (cI_eqF c1) ?_
  refine Ev.run (c' := (86, [.ref 27, .int x1, .int x2, .int x3, .int x4, u5], [.int (2 : Int32), .int x1], hp E w)) hM_105 2 rfl ?_
  refine Ev.icF hM_105 rfl (cI_neF c2) ?_
  refine Ev.run (c' := (90, [.ref 27, .int x1, .int x2, .int x3, .int x4, u5], [.int x2], hp E w)) hM_105 1 rfl ?_
  refine Ev.ifF hM_105 rfl (cI_eqF c3) ?_
  refine Ev.run (c' := (94, [.ref 27, .int x1, .int x2, .int x3, .int x4, u5], [.int x1], hp E w)) hM_105 1 rfl ?_
  refine Ev.ifT hM_105 rfl (cI_neT c4) ?_
  refine Ev.run (c' := (104, [.ref 27, .int x1, .int x2, .int x3, .int x4, u5], [.int (1 : Int32), .int x1], hp E w)) hM_105 2 rfl ?_
  refine Ev.icF hM_105 rfl (cI_neF c5) ?_
  refine Ev.run (c' := (109, [.ref 27, .int x1, .int x2, .int x3, .int x4, u5], [.int x4], hp E w)) hM_105 1 rfl ?_
  refine Ev.ifF hM_105 rfl (cI_neF c6) ?_
  refine Ev.run (c' := (113, [.ref 27, .int x1, .int x2, .int x3, .int x4, u5], [.int x2], hp E w)) hM_105 1 rfl ?_
  refine Ev.ifT hM_105 rfl (cI_neT c7) ?_
  refine Ev.run (c' := (133, [.ref 27, .int x1, .int x2, .int x3, .int x4, .int (0 : Int32)], [], hp E w)) hM_105 2 rfl ?_
  exact e
theorem p105_79_j {E : Nat × (Nat → Int32)} {w : Wd} {d : Nat} {x1 x2 x3 x4 : Int32} {u5 : Value} {o : Ou}  (c1 : ¬ x1 = (3 : Int32)) (c2 : x1 = (2 : Int32)) (c3 : ¬ x2 = 0) (c4 : ¬ x1 = 0) (c5 : x1 = (1 : Int32)) (c6 : ¬ x4 = 0) (e : Ev d 105 (133, [.ref 27, .int x1, .int x2, .int x3, .int x4, .int (1 : Int32)], [], hp E w) o) : Ev d 105 (79, [.ref 27, .int x1, .int x2, .int x3, .int x4, u5], [], hp E w) o := by
  refine Ev.run (c' := (81, [.ref 27, .int x1, .int x2, .int x3, .int x4, u5], [.int (3 : Int32), .int x1], hp E w)) hM_105 2 rfl ?_
  refine Ev.icF hM_105 rfl (cI_eqF c1) ?_
  refine Ev.run (c' := (86, [.ref 27, .int x1, .int x2, .int x3, .int x4, u5], [.int (2 : Int32), .int x1], hp E w)) hM_105 2 rfl ?_
  refine Ev.icF hM_105 rfl (cI_neF c2) ?_
  refine Ev.run (c' := (90, [.ref 27, .int x1, .int x2, .int x3, .int x4, u5], [.int x2], hp E w)) hM_105 1 rfl ?_
  refine Ev.ifF hM_105 rfl (cI_eqF c3) ?_
  refine Ev.run (c' := (94, [.ref 27, .int x1, .int x2, .int x3, .int x4, u5], [.int x1], hp E w)) hM_105 1 rfl ?_
  refine Ev.ifT hM_105 rfl (cI_neT c4) ?_
  refine Ev.run (c' := (104, [.ref 27, .int x1, .int x2, .int x3, .int x4, u5], [.int (1 : Int32), .int x1], hp E w)) hM_105 2 rfl ?_
  refine Ev.icF hM_105 rfl (cI_neF c5) ?_
  refine Ev.run (c' := (109, [.ref 27, .int x1, .int x2, .int x3, .int x4, u5], [.int x4], hp E w)) hM_105 1 rfl ?_
  refine Ev.ifT hM_105 rfl (cI_neT c6) ?_
  refine Ev.run (c' := (133, [.ref 27, .int x1, .int x2, .int x3, .int x4, .int (1 : Int32)], [], hp E w)) hM_105 3 rfl ?_
  exact e
theorem p105_79_k {E : Nat × (Nat → Int32)} {w : Wd} {d : Nat} {x1 x2 x3 x4 : Int32} {u5 : Value} {o : Ou}  (c1 : ¬ x1 = (3 : Int32)) (c2 : x1 = (2 : Int32)) (c3 : ¬ x2 = 0) (c4 : ¬ x1 = 0) (c5 : ¬ x1 = (1 : Int32)) (e : Ev d 105 (133, [.ref 27, .int x1, .int x2, .int x3, .int x4, .int (0 : Int32)], [], hp E w) o) : Ev d 105 (79, [.ref 27, .int x1, .int x2, .int x3, .int x4, u5], [], hp E w) o := by
  refine Ev.run (c' := (81, [.ref 27, .int x1, .int x2, .int x3, .int x4, u5], [.int (3 : Int32), .int x1], hp E w)) hM_105 2 rfl ?_
  refine Ev.icF hM_105 rfl (cI_eqF c1) ?_
  refine Ev.run (c' := (86, [.ref 27, .int x1, .int x2, .int x3, .int x4, u5], [.int (2 : Int32), .int x1], hp E w)) hM_105 2 rfl ?_
  refine Ev.icF hM_105 rfl (cI_neF c2) ?_
  refine Ev.run (c' := (90, [.ref 27, .int x1, .int x2, .int x3, .int x4, u5], [.int x2], hp E w)) hM_105 1 rfl ?_
  refine Ev.ifF hM_105 rfl (cI_eqF c3) ?_
  refine Ev.run (c' := (94, [.ref 27, .int x1, .int x2, .int x3, .int x4, u5], [.int x1], hp E w)) hM_105 1 rfl ?_
  refine Ev.ifT hM_105 rfl (cI_neT c4) ?_
  refine Ev.run (c' := (104, [.ref 27, .int x1, .int x2, .int x3, .int x4, u5], [.int (1 : Int32), .int x1], hp E w)) hM_105 2 rfl ?_
  refine Ev.icT hM_105 rfl (cI_neT c5) ?_
  refine Ev.run (c' := (133, [.ref 27, .int x1, .int x2, .int x3, .int x4, .int (0 : Int32)], [], hp E w)) hM_105 2 rfl ?_
  exact e
theorem p105_79_l {E : Nat × (Nat → Int32)} {w : Wd} {d : Nat} {x1 x2 x3 x4 : Int32} {u5 : Value} {o : Ou}  (c1 : ¬ x1 = (3 : Int32)) (c2 : x1 = (2 : Int32)) (c3 : x2 = 0) (e : Ev d 105 (133, [.ref 27, .int x1, .int x2, .int x3, .int x4, .int (1 : Int32)], [], hp E w) o) : Ev d 105 (79, [.ref 27, .int x1, .int x2, .int x3, .int x4, u5], [], hp E w) o := by
  refine Ev.run (c' := (81, [.ref 27, .int x1, .int x2, .int x3, .int x4, u5], [.int (3 : Int32), .int x1], hp E w)) hM_105 2 rfl ?_
  refine Ev.icF hM_105 rfl (cI_eqF c1) ?_
  refine Ev.run (c' := (86, [.ref 27, .int x1, .int x2, .int x3, .int x4, u5], [.int (2 : Int32), .int x1], hp E w)) hM_105 2 rfl ?_
  refine Ev.icF hM_105 rfl (cI_neF c2) ?_
  refine Ev.run (c' := (90, [.ref 27, .int x1, .int x2, .int x3, .int x4, u5], [.int x2], hp E w)) hM_105 1 rfl ?_
  refine Ev.ifT hM_105 rfl (cI_eqT c3) ?_
  refine Ev.run (c' := (133, [.ref 27, .int x1, .int x2, .int x3, .int x4, .int (1 : Int32)], [], hp E w)) hM_105 3 rfl ?_
  exact e
theorem p105_79_m {E : Nat × (Nat → Int32)} {w : Wd} {d : Nat} {x1 x2 x3 x4 : Int32} {u5 : Value} {o : Ou}  (c1 : ¬ x1 = (3 : Int32)) (c2 : ¬ x1 = (2 : Int32)) (c3 : x1 = 0) (c4 : x4 = 0) (c5 : x1 = (1 : Int32)) (c6 : x4 = 0) (c7 : x2 = 0) (c8 : x3 = ((gF w 9) - (1 : Int32))) (e : Ev d 105 (133, [.ref 27, .int x1, .int x2, .int x3, .int x4, .int (1 : Int32)], [], hp E w) o) : Ev d 105 (79, [.ref 27, .int x1, .int x2, .int x3, .int x4, u5], [], hp E w) o := by
  refine Ev.run (c' := (81, [.ref 27, .int x1, .int x2, .int x3, .int x4, u5], [.int (3 : Int32), .int x1], hp E w)) hM_105 2 rfl ?_
  refine Ev.icF hM_105 rfl (cI_eqF c1) ?_
  refine Ev.run (c' := (86, [.ref 27, .int x1, .int x2, .int x3, .int x4, u5], [.int (2 : Int32), .int x1], hp E w)) hM_105 2 rfl ?_
  refine Ev.icT hM_105 rfl (cI_neT c2) ?_
  refine Ev.run (c' := (94, [.ref 27, .int x1, .int x2, .int x3, .int x4, u5], [.int x1], hp E w)) hM_105 1 rfl ?_
  refine Ev.ifF hM_105 rfl (cI_neF c3) ?_
  refine Ev.run (c' := (99, [.ref 27, .int x1, .int x2, .int x3, .int x4, u5], [.int x4], hp E w)) hM_105 1 rfl ?_
  refine Ev.ifF hM_105 rfl (cI_neF c4) ?_
  refine Ev.run (c' := (104, [.ref 27, .int x1, .int x2, .int x3, .int x4, u5], [.int (1 : Int32), .int x1], hp E w)) hM_105 2 rfl ?_
  refine Ev.icF hM_105 rfl (cI_neF c5) ?_
  refine Ev.run (c' := (109, [.ref 27, .int x1, .int x2, .int x3, .int x4, u5], [.int x4], hp E w)) hM_105 1 rfl ?_
  refine Ev.ifF hM_105 rfl (cI_neF c6) ?_
  refine Ev.run (c' := (113, [.ref 27, .int x1, .int x2, .int x3, .int x4, u5], [.int x2], hp E w)) hM_105 1 rfl ?_
  refine Ev.ifF hM_105 rfl (cI_neF c7) ?_
  refine Ev.run (c' := (123, [.ref 27, .int x1, .int x2, .int x3, .int x4, u5], [.int ((gF w 9) - (1 : Int32)), .int x3], hp E w)) hM_105 5 rfl ?_
  refine Ev.icF hM_105 rfl (cI_neF c8) ?_
  refine Ev.run (c' := (133, [.ref 27, .int x1, .int x2, .int x3, .int x4, .int (1 : Int32)], [], hp E w)) hM_105 3 rfl ?_
  exact e
theorem p105_79_n {E : Nat × (Nat → Int32)} {w : Wd} {d : Nat} {x1 x2 x3 x4 : Int32} {u5 : Value} {o : Ou}  (c1 : ¬ x1 = (3 : Int32)) (c2 : ¬ x1 = (2 : Int32)) (c3 : x1 = 0) (c4 : x4 = 0) (c5 : x1 = (1 : Int32)) (c6 : x4 = 0) (c7 : x2 = 0) (c8 : ¬ x3 = ((gF w 9) - (1 : Int32))) (e : Ev d 105 (133, [.ref 27, .int x1, .int x2, .int x3, .int x4, .int (0 : Int32)], [], hp E w) o) : Ev d 105 (79, [.ref 27, .int x1, .int x2, .int x3, .int x4, u5], [], hp E w) o := by
  refine Ev.run (c' := (81, [.ref 27, .int x1, .int x2, .int x3, .int x4, u5], [.int (3 : Int32), .int x1], hp E w)) hM_105 2 rfl ?_
  refine Ev.icF hM_105 rfl (cI_eqF c1) ?_
  refine Ev.run (c' := (86, [.ref 27, .int x1, .int x2, .int x3, .int x4, u5], [.int (2 : Int32), .int x1], hp E w)) hM_105 2 rfl ?_
  refine Ev.icT hM_105 rfl (cI_neT c2) ?_
  refine Ev.run (c' := (94, [.ref 27, .int x1, .int x2, .int x3, .int x4, u5], [.int x1], hp E w)) hM_105 1 rfl ?_
  refine Ev.ifF hM_105 rfl (cI_neF c3) ?_
  refine Ev.run (c' := (99, [.ref 27, .int x1, .int x2, .int x3, .int x4, u5], [.int x4], hp E w)) hM_105 1 rfl ?_
  refine Ev.ifF hM_105 rfl (cI_neF c4) ?_
  refine Ev.run (c' := (104, [.ref 27, .int x1, .int x2, .int x3, .int x4, u5], [.int (1 : Int32), .int x1], hp E w)) hM_105 2 rfl ?_
  refine Ev.icF hM_105 rfl (cI_neF c5) ?_
  refine Ev.run (c' := (109, [.ref 27, .int x1, .int x2, .int x3, .int x4, u5], [.int x4], hp E w)) hM_105 1 rfl ?_
  refine Ev.ifF hM_105 rfl (cI_neF c6) ?_
  refine Ev.run (c' := (113, [.ref 27, .int x1, .int x2, .int x3, .int x4, u5], [.int x2], hp E w)) hM_105 1 rfl ?_
  refine Ev.ifF hM_105 rfl (cI_neF c7) ?_
  refine Ev.run (c' := (123, [.ref 27, .int x1, .int x2, .int x3, .int x4, u5], [.int ((gF w 9) - (1 : Int32)), .int x3], hp E w)) hM_105 5 rfl ?_
  refine Ev.icT hM_105 rfl (cI_neT c8) ?_
  refine Ev.run (c' := (133, [.ref 27, .int x1, .int x2, .int x3, .int x4, .int (0 : Int32)], [], hp E w)) hM_105 2 rfl ?_
  exact e
theorem p105_79_o {E : Nat × (Nat → Int32)} {w : Wd} {d : Nat} {x1 x2 x3 x4 : Int32} {u5 : Value} {o : Ou}  (c1 : ¬ x1 = (3 : Int32)) (c2 : ¬ x1 = (2 : Int32)) (c3 : x1 = 0) (c4 : x4 = 0) (c5 : x1 = (1 : Int32)) (c6 : x4 = 0) (c7 : ¬ x2 = 0) (e : Ev d 105 (133, [.ref 27, .int x1, .int x2, .int x3, .int x4, .int (0 : Int32)], [], hp E w) o) : Ev d 105 (79, [.ref 27, .int x1, .int x2, .int x3, .int x4, u5], [], hp E w) o := by
  refine Ev.run (c' := (81, [.ref 27, .int x1, .int x2, .int x3, .int x4, u5], [.int (3 : Int32), .int x1], hp E w)) hM_105 2 rfl ?_
  refine Ev.icF hM_105 rfl (cI_eqF c1) ?_
  refine Ev.run (c' := (86, [.ref 27, .int x1, .int x2, .int x3, .int x4, u5], [.int (2 : Int32), .int x1], hp E w)) hM_105 2 rfl ?_
  refine Ev.icT hM_105 rfl (cI_neT c2) ?_
  refine Ev.run (c' := (94, [.ref 27, .int x1, .int x2, .int x3, .int x4, u5], [.int x1], hp E w)) hM_105 1 rfl ?_
  refine Ev.ifF hM_105 rfl (cI_neF c3) ?_
  refine Ev.run (c' := (99, [.ref 27, .int x1, .int x2, .int x3, .int x4, u5], [.int x4], hp E w)) hM_105 1 rfl ?_
  refine Ev.ifF hM_105 rfl (cI_neF c4) ?_
  refine Ev.run (c' := (104, [.ref 27, .int x1, .int x2, .int x3, .int x4, u5], [.int (1 : Int32), .int x1], hp E w)) hM_105 2 rfl ?_
  refine Ev.icF hM_105 rfl (cI_neF c5) ?_
  refine Ev.run (c' := (109, [.ref 27, .int x1, .int x2, .int x3, .int x4, u5], [.int x4], hp E w)) hM_105 1 rfl ?_
  refine Ev.ifF hM_105 rfl (cI_neF c6) ?_
  refine Ev.run (c' := (113, [.ref 27, .int x1, .int x2, .int x3, .int x4, u5], [.int x2], hp E w)) hM_105 1 rfl ?_
  refine Ev.ifT hM_105 rfl (cI_neT c7) ?_
  refine Ev.run (c' := (133, [.ref 27, .int x1, .int x2, .int x3, .int x4, .int (0 : Int32)], [], hp E w)) hM_105 2 rfl ?_
  exact e
theorem p105_79_p {E : Nat × (Nat → Int32)} {w : Wd} {d : Nat} {x1 x2 x3 x4 : Int32} {u5 : Value} {o : Ou}  (c1 : ¬ x1 = (3 : Int32)) (c2 : ¬ x1 = (2 : Int32)) (c3 : x1 = 0) (c4 : x4 = 0) (c5 : x1 = (1 : Int32)) (c6 : ¬ x4 = 0) (e : Ev d 105 (133, [.ref 27, .int x1, .int x2, .int x3, .int x4, .int (1 : Int32)], [], hp E w) o) : Ev d 105 (79, [.ref 27, .int x1, .int x2, .int x3, .int x4, u5], [], hp E w) o := by
  refine Ev.run (c' := (81, [.ref 27, .int x1, .int x2, .int x3, .int x4, u5], [.int (3 : Int32), .int x1], hp E w)) hM_105 2 rfl ?_
  refine Ev.icF hM_105 rfl (cI_eqF c1) ?_
  refine Ev.run (c' := (86, [.ref 27, .int x1, .int x2, .int x3, .int x4, u5], [.int (2 : Int32), .int x1], hp E w)) hM_105 2 rfl ?_
  refine Ev.icT hM_105 rfl (cI_neT c2) ?_
  refine Ev.run (c' := (94, [.ref 27, .int x1, .int x2, .int x3, .int x4, u5], [.int x1], hp E w)) hM_105 1 rfl ?_
  refine Ev.ifF hM_105 rfl (cI_neF c3) ?_
  refine Ev.run (c' := (99, [.ref 27, .int x1, .int x2, .int x3, .int x4, u5], [.int x4], hp E w)) hM_105 1 rfl ?_
  refine Ev.ifF hM_105 rfl (cI_neF c4) ?_
  refine Ev.run (c' := (104, [.ref 27, .int x1, .int x2, .int x3, .int x4, u5], [.int (1 : Int32), .int x1], hp E w)) hM_105 2 rfl ?_
  refine Ev.icF hM_105 rfl (cI_neF c5) ?_
  refine Ev.run (c' := (109, [.ref 27, .int x1, .int x2, .int x3, .int x4, u5], [.int x4], hp E w)) hM_105 1 rfl ?_
  refine Ev.ifT hM_105 rfl (cI_neT c6) ?_
  refine Ev.run (c' := (133, [.ref 27, .int x1, .int x2, .int x3, .int x4, .int (1 : Int32)], [], hp E w)) hM_105 3 rfl ?_
  exact e
theorem p105_79_q {E : Nat × (Nat → Int32)} {w : Wd} {d : Nat} {x1 x2 x3 x4 : Int32} {u5 : Value} {o : Ou}  (c1 : ¬ x1 = (3 : Int32)) (c2 : ¬ x1 = (2 : Int32)) (c3 : x1 = 0) (c4 : x4 = 0) (c5 : ¬ x1 = (1 : Int32)) (e : Ev d 105 (133, [.ref 27, .int x1, .int x2, .int x3, .int x4, .int (0 : Int32)], [], hp E w) o) : Ev d 105 (79, [.ref 27, .int x1, .int x2, .int x3, .int x4, u5], [], hp E w) o := by
  refine Ev.run (c' := (81, [.ref 27, .int x1, .int x2, .int x3, .int x4, u5], [.int (3 : Int32), .int x1], hp E w)) hM_105 2 rfl ?_
  refine Ev.icF hM_105 rfl (cI_eqF c1) ?_
  refine Ev.run (c' := (86, [.ref 27, .int x1, .int x2, .int x3, .int x4, u5], [.int (2 : Int32), .int x1], hp E w)) hM_105 2 rfl ?_
  refine Ev.icT hM_105 rfl (cI_neT c2) ?_
  refine Ev.run (c' := (94, [.ref 27, .int x1, .int x2, .int x3, .int x4, u5], [.int x1], hp E w)) hM_105 1 rfl ?_
  refine Ev.ifF hM_105 rfl (cI_neF c3) ?_
  refine Ev.run (c' := (99, [.ref 27, .int x1, .int x2, .int x3, .int x4, u5], [.int x4], hp E w)) hM_105 1 rfl ?_
  refine Ev.ifF hM_105 rfl (cI_neF c4) ?_
  refine Ev.run (c' := (104, [.ref 27, .int x1, .int x2, .int x3, .int x4, u5], [.int (1 : Int32), .int x1], hp E w)) hM_105 2 rfl ?_
  refine Ev.icT hM_105 rfl (cI_neT c5) ?_
  refine Ev.run (c' := (133, [.ref 27, .int x1, .int x2, .int x3, .int x4, .int (0 : Int32)], [], hp E w)) hM_105 2 rfl ?_
  exact e
theorem p105_79_r {E : Nat × (Nat → Int32)} {w : Wd} {d : Nat} {x1 x2 x3 x4 : Int32} {u5 : Value} {o : Ou}  (c1 : ¬ x1 = (3 : Int32)) (c2 : ¬ x1 = (2 : Int32)) (c3 : x1 = 0) (c4 : ¬ x4 = 0) (e : Ev d 105 (133, [.ref 27, .int x1, .int x2, .int x3, .int x4, .int (1 : Int32)], [], hp E w) o) : Ev d 105 (79, [.ref 27, .int x1, .int x2, .int x3, .int x4, u5], [], hp E w) o := by
  refine Ev.run (c' := (81, [.ref 27, .int x1, .int x2, .int x3, .int x4, u5], [.int (3 : Int32), .int x1], hp E w)) hM_105 2 rfl ?_
  refine Ev.icF hM_105 rfl (cI_eqF c1) ?_
  refine Ev.run (c' := (86, [.ref 27, .int x1, .int x2, .int x3, .int x4, u5], [.int (2 : Int32), .int x1], hp E w)) hM_105 2 rfl ?_
  refine Ev.icT hM_105 rfl (cI_neT c2) ?_
  refine Ev.run (c' := (94, [.ref 27, .int x1, .int x2, .int x3, .int x4, u5], [.int x1], hp E w)) hM_105 1 rfl ?_
  refine Ev.ifF hM_105 rfl (cI_neF c3) ?_
  refine Ev.run (c' := (99, [.ref 27, .int x1, .int x2, .int x3, .int x4, u5], [.int x4], hp E w)) hM_105 1 rfl ?_
  refine Ev.ifT hM_105 rfl (cI_neT c4) ?_
  refine Ev.run (c' := (133, [.ref 27, .int x1, .int x2, .int x3, .int x4, .int (1 : Int32)], [], hp E w)) hM_105 3 rfl ?_
  exact e
theorem p105_79_s {E : Nat × (Nat → Int32)} {w : Wd} {d : Nat} {x1 x2 x3 x4 : Int32} {u5 : Value} {o : Ou}  (c1 : ¬ x1 = (3 : Int32)) (c2 : ¬ x1 = (2 : Int32)) (c3 : ¬ x1 = 0) (c4 : x1 = (1 : Int32)) (c5 : x4 = 0) (c6 : x2 = 0) (c7 : x3 = ((gF w 9) - (1 : Int32))) (e : Ev d 105 (133, [.ref 27, .int x1, .int x2, .int x3, .int x4, .int (1 : Int32)], [], hp E w) o) : Ev d 105 (79, [.ref 27, .int x1, .int x2, .int x3, .int x4, u5], [], hp E w) o := by
  refine Ev.run (c' := (81, [.ref 27, .int x1, .int x2, .int x3, .int x4, u5], [.int (3 : Int32), .int x1], hp E w)) hM_105 2 rfl ?_
  refine Ev.icF hM_105 rfl (cI_eqF c1) ?_
  refine Ev.run (c' := (86, [.ref 27, .int x1, .int x2, .int x3, .int x4, u5], [.int (2 : Int32), .int x1], hp E w)) hM_105 2 rfl ?_
  refine Ev.icT hM_105 rfl (cI_neT c2) ?_
  refine Ev.run (c' := (94, [.ref 27, .int x1, .int x2, .int x3, .int x4, u5], [.int x1], hp E w)) hM_105 1 rfl ?_
  refine Ev.ifT hM_105 rfl (cI_neT c3) ?_
  refine Ev.run (c' := (104, [.ref 27, .int x1, .int x2, .int x3, .int x4, u5], [.int (1 : Int32), .int x1], hp E w)) hM_105 2 rfl ?_
  refine Ev.icF hM_105 rfl (cI_neF c4) ?_
  refine Ev.run (c' := (109, [.ref 27, .int x1, .int x2, .int x3, .int x4, u5], [.int x4], hp E w)) hM_105 1 rfl ?_
  refine Ev.ifF hM_105 rfl (cI_neF c5) ?_
  refine Ev.run (c' := (113, [.ref 27, .int x1, .int x2, .int x3, .int x4, u5], [.int x2], hp E w)) hM_105 1 rfl ?_
  refine Ev.ifF hM_105 rfl (cI_neF c6) ?_
  refine Ev.run (c' := (123, [.ref 27, .int x1, .int x2, .int x3, .int x4, u5], [.int ((gF w 9) - (1 : Int32)), .int x3], hp E w)) hM_105 5 rfl ?_
  refine Ev.icF hM_105 rfl (cI_neF c7) ?_
  refine Ev.run (c' := (133, [.ref 27, .int x1, .int x2, .int x3, .int x4, .int (1 : Int32)], [], hp E w)) hM_105 3 rfl ?_
  exact e
theorem p105_79_t {E : Nat × (Nat → Int32)} {w : Wd} {d : Nat} {x1 x2 x3 x4 : Int32} {u5 : Value} {o : Ou}  (c1 : ¬ x1 = (3 : Int32)) (c2 : ¬ x1 = (2 : Int32)) (c3 : ¬ x1 = 0) (c4 : x1 = (1 : Int32)) (c5 : x4 = 0) (c6 : x2 = 0) (c7 : ¬ x3 = ((gF w 9) - (1 : Int32))) (e : Ev d 105 (133, [.ref 27, .int x1, .int x2, .int x3, .int x4, .int (0 : Int32)], [], hp E w) o) : Ev d 105 (79, [.ref 27, .int x1, .int x2, .int x3, .int x4, u5], [], hp E w) o := by
  refine Ev.run (c' := (81, [.ref 27, .int x1, .int x2, .int x3, .int x4, u5], [.int (3 : Int32), .int x1], hp E w)) hM_105 2 rfl ?_
  refine Ev.icF hM_105 rfl (cI_eqF c1) ?_
  refine Ev.run (c' := (86, [.ref 27, .int x1, .int x2, .int x3, .int x4, u5], [.int (2 : Int32), .int x1], hp E w)) hM_105 2 rfl ?_
  refine Ev.icT hM_105 rfl (cI_neT c2) ?_
  refine Ev.run (c' := (94, [.ref 27, .int x1, .int x2, .int x3, .int x4, u5], [.int x1], hp E w)) hM_105 1 rfl ?_
  refine Ev.ifT hM_105 rfl (cI_neT c3) ?_
  refine Ev.run (c' := (104, [.ref 27, .int x1, .int x2, .int x3, .int x4, u5], [.int (1 : Int32), .int x1], hp E w)) hM_105 2 rfl ?_
  refine Ev.icF hM_105 rfl (cI_neF c4) ?_
  refine Ev.run (c' := (109, [.ref 27, .int x1, .int x2, .int x3, .int x4, u5], [.int x4], hp E w)) hM_105 1 rfl ?_
  refine Ev.ifF hM_105 rfl (cI_neF c5) ?_
  refine Ev.run (c' := (113, [.ref 27, .int x1, .int x2, .int x3, .int x4, u5], [.int x2], hp E w)) hM_105 1 rfl ?_
  refine Ev.ifF hM_105 rfl (cI_neF c6) ?_
  refine Ev.run (c' := (123, [.ref 27, .int x1, .int x2, .int x3, .int x4, u5], [.int ((gF w 9) - (1 : Int32)), .int x3], hp E w)) hM_105 5 rfl ?_
  refine Ev.icT hM_105 rfl (cI_neT c7) ?_
  refine Ev.run (c' := (133, [.ref 27, .int x1, .int x2, .int x3, .int x4, .int (0 : Int32)], [], hp E w)) hM_105 2 rfl ?_
  exact e
theorem p105_79_u {E : Nat × (Nat → Int32)} {w : Wd} {d : Nat} {x1 x2 x3 x4 : Int32} {u5 : Value} {o : Ou}  (c1 : ¬ x1 = (3 : Int32)) (c2 : ¬ x1 = (2 : Int32)) (c3 : ¬ x1 = 0) (c4 : x1 = (1 : Int32)) (c5 : x4 = 0) (c6 : ¬ x2 = 0) (e : Ev d 105 (133, [.ref 27, .int x1, .int x2, .int x3, .int x4, .int (0 : Int32)], [], hp E w) o) : Ev d 105 (79, [.ref 27, .int x1, .int x2, .int x3, .int x4, u5], [], hp E w) o := by
  refine Ev.run (c' := (81, [.ref 27, .int x1, .int x2, .int x3, .int x4, u5], [.int (3 : Int32), .int x1], hp E w)) hM_105 2 rfl ?_
  refine Ev.icF hM_105 rfl (cI_eqF c1) ?_
  refine Ev.run (c' := (86, [.ref 27, .int x1, .int x2, .int x3, .int x4, u5], [.int (2 : Int32), .int x1], hp E w)) hM_105 2 rfl ?_
  refine Ev.icT hM_105 rfl (cI_neT c2) ?_
  refine Ev.run (c' := (94, [.ref 27, .int x1, .int x2, .int x3, .int x4, u5], [.int x1], hp E w)) hM_105 1 rfl ?_
  refine Ev.ifT hM_105 rfl (cI_neT c3) ?_
  refine Ev.run (c' := (104, [.ref 27, .int x1, .int x2, .int x3, .int x4, u5], [.int (1 : Int32), .int x1], hp E w)) hM_105 2 rfl ?_
  refine Ev.icF hM_105 rfl (cI_neF c4) ?_
  refine Ev.run (c' := (109, [.ref 27, .int x1, .int x2, .int x3, .int x4, u5], [.int x4], hp E w)) hM_105 1 rfl ?_
  refine Ev.ifF hM_105 rfl (cI_neF c5) ?_
  refine Ev.run (c' := (113, [.ref 27, .int x1, .int x2, .int x3, .int x4, u5], [.int x2], hp E w)) hM_105 1 rfl ?_
  refine Ev.ifT hM_105 rfl (cI_neT c6) ?_
  refine Ev.run (c' := (133, [.ref 27, .int x1, .int x2, .int x3, .int x4, .int (0 : Int32)], [], hp E w)) hM_105 2 rfl ?_
  exact e
theorem p105_79_v {E : Nat × (Nat → Int32)} {w : Wd} {d : Nat} {x1 x2 x3 x4 : Int32} {u5 : Value} {o : Ou}  (c1 : ¬ x1 = (3 : Int32)) (c2 : ¬ x1 = (2 : Int32)) (c3 : ¬ x1 = 0) (c4 : x1 = (1 : Int32)) (c5 : ¬ x4 = 0) (e : Ev d 105 (133, [.ref 27, .int x1, .int x2, .int x3, .int x4, .int (1 : Int32)], [], hp E w) o) : Ev d 105 (79, [.ref 27, .int x1, .int x2, .int x3, .int x4, u5], [], hp E w) o := by
  refine Ev.run (c' := (81, [.ref 27, .int x1, .int x2, .int x3, .int x4, u5], [.int (3 : Int32), .int x1], hp E w)) hM_105 2 rfl ?_
  refine Ev.icF hM_105 rfl (cI_eqF c1) ?_
  refine Ev.run (c' := (86, [.ref 27, .int x1, .int x2, .int x3, .int x4, u5], [.int (2 : Int32), .int x1], hp E w)) hM_105 2 rfl ?_
  refine Ev.icT hM_105 rfl (cI_neT c2) ?_
  refine Ev.run (c' := (94, [.ref 27, .int x1, .int x2, .int x3, .int x4, u5], [.int x1], hp E w)) hM_105 1 rfl ?_
  refine Ev.ifT hM_105 rfl (cI_neT c3) ?_
  refine Ev.run (c' := (104, [.ref 27, .int x1, .int x2, .int x3, .int x4, u5], [.int (1 : Int32), .int x1], hp E w)) hM_105 2 rfl ?_
  refine Ev.icF hM_105 rfl (cI_neF c4) ?_
  refine Ev.run (c' := (109, [.ref 27, .int x1, .int x2, .int x3, .int x4, u5], [.int x4], hp E w)) hM_105 1 rfl ?_
  refine Ev.ifT hM_105 rfl (cI_neT c5) ?_
  refine Ev.run (c' := (133, [.ref 27, .int x1, .int x2, .int x3, .int x4, .int (1 : Int32)], [], hp E w)) hM_105 3 rfl ?_
  exact e
theorem p105_79_w {E : Nat × (Nat → Int32)} {w : Wd} {d : Nat} {x1 x2 x3 x4 : Int32} {u5 : Value} {o : Ou}  (c1 : ¬ x1 = (3 : Int32)) (c2 : ¬ x1 = (2 : Int32)) (c3 : ¬ x1 = 0) (c4 : ¬ x1 = (1 : Int32)) (e : Ev d 105 (133, [.ref 27, .int x1, .int x2, .int x3, .int x4, .int (0 : Int32)], [], hp E w) o) : Ev d 105 (79, [.ref 27, .int x1, .int x2, .int x3, .int x4, u5], [], hp E w) o := by
  refine Ev.run (c' := (81, [.ref 27, .int x1, .int x2, .int x3, .int x4, u5], [.int (3 : Int32), .int x1], hp E w)) hM_105 2 rfl ?_
  refine Ev.icF hM_105 rfl (cI_eqF c1) ?_
  refine Ev.run (c' := (86, [.ref 27, .int x1, .int x2, .int x3, .int x4, u5], [.int (2 : Int32), .int x1], hp E w)) hM_105 2 rfl ?_
  refine Ev.icT hM_105 rfl (cI_neT c2) ?_
  refine Ev.run (c' := (94, [.ref 27, .int x1, .int x2, .int x3, .int x4, u5], [.int x1], hp E w)) hM_105 1 rfl ?_
  refine Ev.ifT hM_105 rfl (cI_neT c3) ?_
  refine Ev.run (c' := (104, [.ref 27, .int x1, .int x2, .int x3, .int x4, u5], [.int (1 : Int32), .int x1], hp E w)) hM_105 2 rfl ?_
  refine Ev.icT hM_105 rfl (cI_neT c4) ?_
  refine Ev.run (c' := (133, [.ref 27, .int x1, .int x2, .int x3, .int x4, .int (0 : Int32)], [], hp E w)) hM_105 2 rfl ?_
  exact e
theorem p105_79_x {E : Nat × (Nat → Int32)} {w : Wd} {d : Nat} {x1 x2 x3 x4 : Int32} {u5 : Value} {o : Ou}  (c1 : x1 = (3 : Int32)) (e : Ev d 105 (133, [.ref 27, .int x1, .int x2, .int x3, .int x4, .int (1 : Int32)], [], hp E w) o) : Ev d 105 (79, [.ref 27, .int x1, .int x2, .int x3, .int x4, u5], [], hp E w) o := by
  refine Ev.run (c' := (81, [.ref 27, .int x1, .int x2, .int x3, .int x4, u5], [.int (3 : Int32), .int x1], hp E w)) hM_105 2 rfl ?_
  refine Ev.icT hM_105 rfl (cI_eqT c1) ?_
  refine Ev.run (c' := (133, [.ref 27, .int x1, .int x2, .int x3, .int x4, .int (1 : Int32)], [], hp E w)) hM_105 3 rfl ?_
  exact e
theorem p105_133_a {E : Nat × (Nat → Int32)} {w : Wd} {d : Nat} {x1 x2 x3 x4 x5 : Int32} {o : Ou} {w1 : Wd} {y3 : Int32} (hd : 1 ≤ d) (c1 : ¬ x5 = 0) (h1 : Ev (d - 1) 104 (ent0 104 [.ref 27, .int x2, .int x3, .int (1 : Int32)] (hp E w)) (.inl none, hp E w1)) (q3 : (x3 + (1 : Int32)) = y3) (e : Ev d 105 (57, [.ref 27, .int x1, .int x2, .int y3, .int x4, .int x5], [], hp E w1) o) : Ev d 105 (133, [.ref 27, .int x1, .int x2, .int x3, .int x4, .int x5], [], hp E w) o := by
  subst q3
  refine Ev.run (c' := (135, [.ref 27, .int x1, .int x2, .int x3, .int x4, .int x5], [.int x5], hp E w)) hM_105 1 rfl ?_
  refine Ev.ifF hM_105 rfl (cI_eqF c1) ?_
  refine Ev.run (c' := (142, [.ref 27, .int x1, .int x2, .int x3, .int x4, .int x5], [.int (1 : Int32), .int x3, .int x2, .ref 27], hp E w)) hM_105 4 rfl ?_
  refine Ev.callR hd hM_105 rfl (y := 104) (as := [.ref 27, .int x2, .int x3, .int (1 : Int32)]) (rest := []) rfl (Nat.le_of_ble_eq_true rfl) h1 ?_
  refine Ev.run (c' := (57, [.ref 27, .int x1, .int x2, .int (x3 + (1 : Int32)), .int x4, .int x5], [], hp E w1)) hM_105 2 rfl ?_
  exact e
theorem p105_133_b {E : Nat × (Nat → Int32)} {w : Wd} {d : Nat} {x1 x2 x3 x4 x5 : Int32} {o : Ou} {y3 : Int32} (c1 : x5 = 0) (q3 : (x3 + (1 : Int32)) = y3) (e : Ev d 105 (57, [.ref 27, .int x1, .int x2, .int y3, .int x4, .int x5], [], hp E w) o) : Ev d 105 (133, [.ref 27, .int x1, .int x2, .int x3, .int x4, .int x5], [], hp E w) o := by
  subst q3
  refine Ev.run (c' := (135, [.ref 27, .int x1, .int x2, .int x3, .int x4, .int x5], [.int x5], hp E w)) hM_105 1 rfl ?_
  refine Ev.ifT hM_105 rfl (cI_eqT c1) ?_
  refine Ev.run (c' := (57, [.ref 27, .int x1, .int x2, .int (x3 + (1 : Int32)), .int x4, .int x5], [], hp E w)) hM_105 2 rfl ?_
  exact e
theorem hM_106 : mAt 106 = some km_X8_keep := rfl
theorem p106_e_a {E : Nat × (Nat → Int32)} {w : Wd} {d : Nat} {x1 x2 x3 : Int32} {j1 : Nat} {j2 : Nat} {j3 : Nat} {j4 : Nat} {w' : Wd} (g1 : (gF w 11) = I j1) (b1 : j1 < 200) (g2 : (gF (sA 11 (upd (gA w 11) j1 x1) w) 11) = I j2) (b2 : j2 < 200) (g3 : (gF (sA 12 (upd (gA (sA 11 (upd (gA w 11) j1 x1) w) 12) j2 x2) (sA 11 (upd (gA w 11) j1 x1) w)) 11) = I j3) (b3 : j3 < 200) (g4 : (gF (sA 13 (upd (gA (sA 12 (upd (gA (sA 11 (upd (gA w 11) j1 x1) w) 12) j2 x2) (sA 11 (upd (gA w 11) j1 x1) w)) 13) j3 x3) (sA 12 (upd (gA (sA 11 (upd (gA w 11) j1 x1) w) 12) j2 x2) (sA 11 (upd (gA w 11) j1 x1) w))) 11) = I j4) (b4 : j4 < 200) (qw : (sF 11 ((gF (sA 14 (upd (gA (sA 13 (upd (gA (sA 12 (upd (gA (sA 11 (upd (gA w 11) j1 x1) w) 12) j2 x2) (sA 11 (upd (gA w 11) j1 x1) w)) 13) j3 x3) (sA 12 (upd (gA (sA 11 (upd (gA w 11) j1 x1) w) 12) j2 x2) (sA 11 (upd (gA w 11) j1 x1) w))) 14) j4 (gF (sA 13 (upd (gA (sA 12 (upd (gA (sA 11 (upd (gA w 11) j1 x1) w) 12) j2 x2) (sA 11 (upd (gA w 11) j1 x1) w)) 13) j3 x3) (sA 12 (upd (gA (sA 11 (upd (gA w 11) j1 x1) w) 12) j2 x2) (sA 11 (upd (gA w 11) j1 x1) w))) 10)) (sA 13 (upd (gA (sA 12 (upd (gA (sA 11 (upd (gA w 11) j1 x1) w) 12) j2 x2) (sA 11 (upd (gA w 11) j1 x1) w)) 13) j3 x3) (sA 12 (upd (gA (sA 11 (upd (gA w 11) j1 x1) w) 12) j2 x2) (sA 11 (upd (gA w 11) j1 x1) w)))) 11) + (1 : Int32)) (sA 14 (upd (gA (sA 13 (upd (gA (sA 12 (upd (gA (sA 11 (upd (gA w 11) j1 x1) w) 12) j2 x2) (sA 11 (upd (gA w 11) j1 x1) w)) 13) j3 x3) (sA 12 (upd (gA (sA 11 (upd (gA w 11) j1 x1) w) 12) j2 x2) (sA 11 (upd (gA w 11) j1 x1) w))) 14) j4 (gF (sA 13 (upd (gA (sA 12 (upd (gA (sA 11 (upd (gA w 11) j1 x1) w) 12) j2 x2) (sA 11 (upd (gA w 11) j1 x1) w)) 13) j3 x3) (sA 12 (upd (gA (sA 11 (upd (gA w 11) j1 x1) w) 12) j2 x2) (sA 11 (upd (gA w 11) j1 x1) w))) 10)) (sA 13 (upd (gA (sA 12 (upd (gA (sA 11 (upd (gA w 11) j1 x1) w) 12) j2 x2) (sA 11 (upd (gA w 11) j1 x1) w)) 13) j3 x3) (sA 12 (upd (gA (sA 11 (upd (gA w 11) j1 x1) w) 12) j2 x2) (sA 11 (upd (gA w 11) j1 x1) w))))) = w') : Ev d 106 (ent0 106 [.ref 27, .int x1, .int x2, .int x3] (hp E w)) (.inl none, hp E w') := by
  subst qw
  refine Ev.run (c' := (9, [.ref 27, .int x1, .int x2, .int x3], [.int x1, .int (gF w 11), .ref 29], hp E w)) hM_106 5 rfl ?_
  rw [g1]
  refine Ev.iast hM_106 rfl (a := 28) rfl (inb_I b1 (by decide)) (h' := hp E (sA 11 (upd (gA w 11) j1 x1) w)) (by rw [I_clamp (Nat.lt_of_lt_of_le b1 (by decide))]; rfl) ?_
  refine Ev.run (c' := (19, [.ref 27, .int x1, .int x2, .int x3], [.int x2, .int (gF (sA 11 (upd (gA w 11) j1 x1) w) 11), .ref 30], hp E (sA 11 (upd (gA w 11) j1 x1) w))) hM_106 5 rfl ?_
  rw [g2]
  refine Ev.iast hM_106 rfl (a := 29) rfl (inb_I b2 (by decide)) (h' := hp E (sA 12 (upd (gA (sA 11 (upd (gA w 11) j1 x1) w) 12) j2 x2) (sA 11 (upd (gA w 11) j1 x1) w))) (by rw [I_clamp (Nat.lt_of_lt_of_le b2 (by decide))]; rfl) ?_
  refine Ev.run (c' := (29, [.ref 27, .int x1, .int x2, .int x3], [.int x3, .int (gF (sA 12 (upd (gA (sA 11 (upd (gA w 11) j1 x1) w) 12) j2 x2) (sA 11 (upd (gA w 11) j1 x1) w)) 11), .ref 31], hp E (sA 12 (upd (gA (sA 11 (upd (gA w 11) j1 x1) w) 12) j2 x2) (sA 11 (upd (gA w 11) j1 x1) w)))) hM_106 5 rfl ?_
  rw [g3]
  refine Ev.iast hM_106 rfl (a := 30) rfl (inb_I b3 (by decide)) (h' := hp E (sA 13 (upd (gA (sA 12 (upd (gA (sA 11 (upd (gA w 11) j1 x1) w) 12) j2 x2) (sA 11 (upd (gA w 11) j1 x1) w)) 13) j3 x3) (sA 12 (upd (gA (sA 11 (upd (gA w 11) j1 x1) w) 12) j2 x2) (sA 11 (upd (gA w 11) j1 x1) w)))) (by rw [I_clamp (Nat.lt_of_lt_of_le b3 (by decide))]; rfl) ?_
  refine Ev.run (c' := (42, [.ref 27, .int x1, .int x2, .int x3], [.int (gF (sA 13 (upd (gA (sA 12 (upd (gA (sA 11 (upd (gA w 11) j1 x1) w) 12) j2 x2) (sA 11 (upd (gA w 11) j1 x1) w)) 13) j3 x3) (sA 12 (upd (gA (sA 11 (upd (gA w 11) j1 x1) w) 12) j2 x2) (sA 11 (upd (gA w 11) j1 x1) w))) 10), .int (gF (sA 13 (upd (gA (sA 12 (upd (gA (sA 11 (upd (gA w 11) j1 x1) w) 12) j2 x2) (sA 11 (upd (gA w 11) j1 x1) w)) 13) j3 x3) (sA 12 (upd (gA (sA 11 (upd (gA w 11) j1 x1) w) 12) j2 x2) (sA 11 (upd (gA w 11) j1 x1) w))) 11), .ref 32], hp E (sA 13 (upd (gA (sA 12 (upd (gA (sA 11 (upd (gA w 11) j1 x1) w) 12) j2 x2) (sA 11 (upd (gA w 11) j1 x1) w)) 13) j3 x3) (sA 12 (upd (gA (sA 11 (upd (gA w 11) j1 x1) w) 12) j2 x2) (sA 11 (upd (gA w 11) j1 x1) w))))) hM_106 6 rfl ?_
  rw [g4]
  refine Ev.iast hM_106 rfl (a := 31) rfl (inb_I b4 (by decide)) (h' := hp E (sA 14 (upd (gA (sA 13 (upd (gA (sA 12 (upd (gA (sA 11 (upd (gA w 11) j1 x1) w) 12) j2 x2) (sA 11 (upd (gA w 11) j1 x1) w)) 13) j3 x3) (sA 12 (upd (gA (sA 11 (upd (gA w 11) j1 x1) w) 12) j2 x2) (sA 11 (upd (gA w 11) j1 x1) w))) 14) j4 (gF (sA 13 (upd (gA (sA 12 (upd (gA (sA 11 (upd (gA w 11) j1 x1) w) 12) j2 x2) (sA 11 (upd (gA w 11) j1 x1) w)) 13) j3 x3) (sA 12 (upd (gA (sA 11 (upd (gA w 11) j1 x1) w) 12) j2 x2) (sA 11 (upd (gA w 11) j1 x1) w))) 10)) (sA 13 (upd (gA (sA 12 (upd (gA (sA 11 (upd (gA w 11) j1 x1) w) 12) j2 x2) (sA 11 (upd (gA w 11) j1 x1) w)) 13) j3 x3) (sA 12 (upd (gA (sA 11 (upd (gA w 11) j1 x1) w) 12) j2 x2) (sA 11 (upd (gA w 11) j1 x1) w))))) (by rw [I_clamp (Nat.lt_of_lt_of_le b4 (by decide))]; rfl) ?_
  refine Ev.run (c' := (53, [.ref 27, .int x1, .int x2, .int x3], [], hp E (sF 11 ((gF (sA 14 (upd (gA (sA 13 (upd (gA (sA 12 (upd (gA (sA 11 (upd (gA w 11) j1 x1) w) 12) j2 x2) (sA 11 (upd (gA w 11) j1 x1) w)) 13) j3 x3) (sA 12 (upd (gA (sA 11 (upd (gA w 11) j1 x1) w) 12) j2 x2) (sA 11 (upd (gA w 11) j1 x1) w))) 14) j4 (gF (sA 13 (upd (gA (sA 12 (upd (gA (sA 11 (upd (gA w 11) j1 x1) w) 12) j2 x2) (sA 11 (upd (gA w 11) j1 x1) w)) 13) j3 x3) (sA 12 (upd (gA (sA 11 (upd (gA w 11) j1 x1) w) 12) j2 x2) (sA 11 (upd (gA w 11) j1 x1) w))) 10)) (sA 13 (upd (gA (sA 12 (upd (gA (sA 11 (upd (gA w 11) j1 x1) w) 12) j2 x2) (sA 11 (upd (gA w 11) j1 x1) w)) 13) j3 x3) (sA 12 (upd (gA (sA 11 (upd (gA w 11) j1 x1) w) 12) j2 x2) (sA 11 (upd (gA w 11) j1 x1) w)))) 11) + (1 : Int32)) (sA 14 (upd (gA (sA 13 (upd (gA (sA 12 (upd (gA (sA 11 (upd (gA w 11) j1 x1) w) 12) j2 x2) (sA 11 (upd (gA w 11) j1 x1) w)) 13) j3 x3) (sA 12 (upd (gA (sA 11 (upd (gA w 11) j1 x1) w) 12) j2 x2) (sA 11 (upd (gA w 11) j1 x1) w))) 14) j4 (gF (sA 13 (upd (gA (sA 12 (upd (gA (sA 11 (upd (gA w 11) j1 x1) w) 12) j2 x2) (sA 11 (upd (gA w 11) j1 x1) w)) 13) j3 x3) (sA 12 (upd (gA (sA 11 (upd (gA w 11) j1 x1) w) 12) j2 x2) (sA 11 (upd (gA w 11) j1 x1) w))) 10)) (sA 13 (upd (gA (sA 12 (upd (gA (sA 11 (upd (gA w 11) j1 x1) w) 12) j2 x2) (sA 11 (upd (gA w 11) j1 x1) w)) 13) j3 x3) (sA 12 (upd (gA (sA 11 (upd (gA w 11) j1 x1) w) 12) j2 x2) (sA 11 (upd (gA w 11) j1 x1) w))))))) hM_106 6 rfl ?_
  exact Ev.fin hM_106 rfl rfl
theorem hM_107 : mAt 107 = some km_X8_door := rfl
theorem p107_e_a {E : Nat × (Nat → Int32)} {w : Wd} {d : Nat} {x1 x2 x3 : Int32} {w1 : Wd} {v1 : Int32} {w2 : Wd} {v2 : Int32} {w3 : Wd} {v3 : Int32} (hd : 1 ≤ d) (h1 : Ev (d - 1) 98 (ent0 98 [.ref 27, .int x1] (hp E (sF 8 (0 : Int32) w))) (.inl (some (.int v1)), hp E w1)) (c1 : ¬ v1 = 0) (h2 : Ev (d - 1) 98 (ent0 98 [.ref 27, .int x2] (hp E w1)) (.inl (some (.int v2)), hp E w2)) (c2 : v2 = 0) (h3 : Ev (d - 1) 97 (ent0 97 [.ref 27, .int (1 : Int32)] (hp E w2)) (.inl (some (.int v3)), hp E w3)) : Ev d 107 (ent0 107 [.ref 27, .int x1, .int x2, .int x3] (hp E w)) (.inl (some (.int (0 : Int32))), hp E w3) := by
  refine Ev.run (c' := (7, [.ref 27, .int x1, .int x2, .int x3, jk], [.int x1, .ref 27], hp E (sF 8 (0 : Int32) w))) hM_107 5 rfl ?_
  refine Ev.callR hd hM_107 rfl (y := 98) (as := [.ref 27, .int x1]) (rest := []) rfl (Nat.le_of_ble_eq_true rfl) h1 ?_
  refine Ev.run (c' := (10, [.ref 27, .int x1, .int x2, .int x3, jk], [.int v1], hp E w1)) hM_107 0 rfl ?_
  refine Ev.ifF hM_107 rfl (cI_eqF c1) ?_
  refine Ev.run (c' := (15, [.ref 27, .int x1, .int x2, .int x3, jk], [.int x2, .ref 27], hp E w1)) hM_107 2 rfl ?_
  refine Ev.callR hd hM_107 rfl (y := 98) (as := [.ref 27, .int x2]) (rest := []) rfl (Nat.le_of_ble_eq_true rfl) h2 ?_
  refine Ev.run (c' := (18, [.ref 27, .int x1, .int x2, .int x3, jk], [.int v2], hp E w2)) hM_107 0 rfl ?_
  refine Ev.ifF hM_107 rfl (cI_neF c2) ?_
  refine Ev.run (c' := (23, [.ref 27, .int x1, .int x2, .int x3, jk], [.int (1 : Int32), .ref 27], hp E w2)) hM_107 2 rfl ?_
  refine Ev.callR hd hM_107 rfl (y := 97) (as := [.ref 27, .int (1 : Int32)]) (rest := []) rfl (Nat.le_of_ble_eq_true rfl) h3 ?_
  refine Ev.run (c' := (28, [.ref 27, .int x1, .int x2, .int x3, jk], [.int (0 : Int32)], hp E w3)) hM_107 2 rfl ?_
  exact Ev.fin hM_107 rfl rfl
theorem p107_e_b {E : Nat × (Nat → Int32)} {w : Wd} {d : Nat} {x1 x2 x3 : Int32} {w1 : Wd} {v1 : Int32} {w2 : Wd} {v2 : Int32} {w3 : Wd} {v3 : Int32} (hd : 1 ≤ d) (h1 : Ev (d - 1) 98 (ent0 98 [.ref 27, .int x1] (hp E (sF 8 (0 : Int32) w))) (.inl (some (.int v1)), hp E w1)) (c1 : ¬ v1 = 0) (h2 : Ev (d - 1) 98 (ent0 98 [.ref 27, .int x2] (hp E w1)) (.inl (some (.int v2)), hp E w2)) (c2 : ¬ v2 = 0) (c3 : x1 = x2) (h3 : Ev (d - 1) 97 (ent0 97 [.ref 27, .int (2 : Int32)] (hp E w2)) (.inl (some (.int v3)), hp E w3)) : Ev d 107 (ent0 107 [.ref 27, .int x1, .int x2, .int x3] (hp E w)) (.inl (some (.int (0 : Int32))), hp E w3) := by
  refine Ev.run (c' := (7, [.ref 27, .int x1, .int x2, .int x3, jk], [.int x1, .ref 27], hp E (sF 8 (0 : Int32) w))) hM_107 5 rfl ?_
  refine Ev.callR hd hM_107 rfl (y := 98) (as := [.ref 27, .int x1]) (rest := []) rfl (Nat.le_of_ble_eq_true rfl) h1 ?_
  refine Ev.run (c' := (10, [.ref 27, .int x1, .int x2, .int x3, jk], [.int v1], hp E w1)) hM_107 0 rfl ?_
  refine Ev.ifF hM_107 rfl (cI_eqF c1) ?_
  refine Ev.run (c' := (15, [.ref 27, .int x1, .int x2, .int x3, jk], [.int x2, .ref 27], hp E w1)) hM_107 2 rfl ?_
  refine Ev.callR hd hM_107 rfl (y := 98) (as := [.ref 27, .int x2]) (rest := []) rfl (Nat.le_of_ble_eq_true rfl) h2 ?_
  refine Ev.run (c' := (18, [.ref 27, .int x1, .int x2, .int x3, jk], [.int v2], hp E w2)) hM_107 0 rfl ?_
  refine Ev.ifT hM_107 rfl (cI_neT c2) ?_
  refine Ev.run (c' := (31, [.ref 27, .int x1, .int x2, .int x3, jk], [.int x2, .int x1], hp E w2)) hM_107 2 rfl ?_
  refine Ev.icF hM_107 rfl (cI_neF c3) ?_
  refine Ev.run (c' := (36, [.ref 27, .int x1, .int x2, .int x3, jk], [.int (2 : Int32), .ref 27], hp E w2)) hM_107 2 rfl ?_
  refine Ev.callR hd hM_107 rfl (y := 97) (as := [.ref 27, .int (2 : Int32)]) (rest := []) rfl (Nat.le_of_ble_eq_true rfl) h3 ?_
  refine Ev.run (c' := (41, [.ref 27, .int x1, .int x2, .int x3, jk], [.int (0 : Int32)], hp E w3)) hM_107 2 rfl ?_
  exact Ev.fin hM_107 rfl rfl
theorem p107_e_c {E : Nat × (Nat → Int32)} {w : Wd} {d : Nat} {x1 x2 x3 : Int32} {w1 : Wd} {v1 : Int32} {w2 : Wd} {v2 : Int32} {j1 : Nat} (hd : 1 ≤ d) (h1 : Ev (d - 1) 98 (ent0 98 [.ref 27, .int x1] (hp E (sF 8 (0 : Int32) w))) (.inl (some (.int v1)), hp E w1)) (c1 : ¬ v1 = 0) (h2 : Ev (d - 1) 98 (ent0 98 [.ref 27, .int x2] (hp E w1)) (.inl (some (.int v2)), hp E w2)) (c2 : ¬ v2 = 0) (c3 : ¬ x1 = x2) (g1 : x1 = I j1) (b1 : j1 < 9) (c4 : (((gA w2 10 j1) >>> (x2 &&& 31)) &&& (1 : Int32)) = (1 : Int32)) (c5 : (1 : Int32) = x3) : Ev d 107 (ent0 107 [.ref 27, .int x1, .int x2, .int x3] (hp E w)) (.inl (some (.int (1 : Int32))), hp E w2) := by
  refine Ev.run (c' := (7, [.ref 27, .int x1, .int x2, .int x3, jk], [.int x1, .ref 27], hp E (sF 8 (0 : Int32) w))) hM_107 5 rfl ?_
  refine Ev.callR hd hM_107 rfl (y := 98) (as := [.ref 27, .int x1]) (rest := []) rfl (Nat.le_of_ble_eq_true rfl) h1 ?_
  refine Ev.run (c' := (10, [.ref 27, .int x1, .int x2, .int x3, jk], [.int v1], hp E w1)) hM_107 0 rfl ?_
  refine Ev.ifF hM_107 rfl (cI_eqF c1) ?_
  refine Ev.run (c' := (15, [.ref 27, .int x1, .int x2, .int x3, jk], [.int x2, .ref 27], hp E w1)) hM_107 2 rfl ?_
  refine Ev.callR hd hM_107 rfl (y := 98) (as := [.ref 27, .int x2]) (rest := []) rfl (Nat.le_of_ble_eq_true rfl) h2 ?_
  refine Ev.run (c' := (18, [.ref 27, .int x1, .int x2, .int x3, jk], [.int v2], hp E w2)) hM_107 0 rfl ?_
  refine Ev.ifT hM_107 rfl (cI_neT c2) ?_
  refine Ev.run (c' := (31, [.ref 27, .int x1, .int x2, .int x3, jk], [.int x2, .int x1], hp E w2)) hM_107 2 rfl ?_
  refine Ev.icT hM_107 rfl (cI_neT c3) ?_
  refine Ev.run (c' := (47, [.ref 27, .int x1, .int x2, .int x3, jk], [.int x1, .ref 28], hp E w2)) hM_107 3 rfl ?_
  subst g1
  refine Ev.iald hM_107 rfl (a := 28) rfl (inb_I b1 (by decide)) ?_
  rw [I_clamp (Nat.lt_of_lt_of_le b1 (by decide))]
  refine Ev.run (c' := (53, [.ref 27, .int (I j1), .int x2, .int x3, jk], [.int (1 : Int32), .int (((gA w2 10 j1) >>> (x2 &&& 31)) &&& (1 : Int32))], hp E w2)) hM_107 5 rfl ?_
  refine Ev.icF hM_107 rfl (cI_neF c4) ?_
  refine Ev.run (c' := (66, [.ref 27, .int (I j1), .int x2, .int x3, .int (1 : Int32)], [.int x3, .int (1 : Int32)], hp E w2)) hM_107 5 rfl ?_
  refine Ev.icF hM_107 rfl (cI_neF c5) ?_
  refine Ev.run (c' := (71, [.ref 27, .int (I j1), .int x2, .int x3, .int (1 : Int32)], [.int (1 : Int32)], hp E w2)) hM_107 1 rfl ?_
  exact Ev.fin hM_107 rfl rfl
theorem p107_e_d {E : Nat × (Nat → Int32)} {w : Wd} {d : Nat} {x1 x2 x3 : Int32} {w1 : Wd} {v1 : Int32} {w2 : Wd} {v2 : Int32} {j1 : Nat} {w3 : Wd} {v3 : Int32} (hd : 1 ≤ d) (h1 : Ev (d - 1) 98 (ent0 98 [.ref 27, .int x1] (hp E (sF 8 (0 : Int32) w))) (.inl (some (.int v1)), hp E w1)) (c1 : ¬ v1 = 0) (h2 : Ev (d - 1) 98 (ent0 98 [.ref 27, .int x2] (hp E w1)) (.inl (some (.int v2)), hp E w2)) (c2 : ¬ v2 = 0) (c3 : ¬ x1 = x2) (g1 : x1 = I j1) (b1 : j1 < 9) (c4 : (((gA w2 10 j1) >>> (x2 &&& 31)) &&& (1 : Int32)) = (1 : Int32)) (c5 : ¬ (1 : Int32) = x3) (c6 : (gF w2 11) = (200 : Int32)) (h3 : Ev (d - 1) 97 (ent0 97 [.ref 27, .int (3 : Int32)] (hp E w2)) (.inl (some (.int v3)), hp E w3)) : Ev d 107 (ent0 107 [.ref 27, .int x1, .int x2, .int x3] (hp E w)) (.inl (some (.int (0 : Int32))), hp E w3) := by
  refine Ev.run (c' := (7, [.ref 27, .int x1, .int x2, .int x3, jk], [.int x1, .ref 27], hp E (sF 8 (0 : Int32) w))) hM_107 5 rfl ?_
  refine Ev.callR hd hM_107 rfl (y := 98) (as := [.ref 27, .int x1]) (rest := []) rfl (Nat.le_of_ble_eq_true rfl) h1 ?_
  refine Ev.run (c' := (10, [.ref 27, .int x1, .int x2, .int x3, jk], [.int v1], hp E w1)) hM_107 0 rfl ?_
  refine Ev.ifF hM_107 rfl (cI_eqF c1) ?_
  refine Ev.run (c' := (15, [.ref 27, .int x1, .int x2, .int x3, jk], [.int x2, .ref 27], hp E w1)) hM_107 2 rfl ?_
  refine Ev.callR hd hM_107 rfl (y := 98) (as := [.ref 27, .int x2]) (rest := []) rfl (Nat.le_of_ble_eq_true rfl) h2 ?_
  refine Ev.run (c' := (18, [.ref 27, .int x1, .int x2, .int x3, jk], [.int v2], hp E w2)) hM_107 0 rfl ?_
  refine Ev.ifT hM_107 rfl (cI_neT c2) ?_
  refine Ev.run (c' := (31, [.ref 27, .int x1, .int x2, .int x3, jk], [.int x2, .int x1], hp E w2)) hM_107 2 rfl ?_
  refine Ev.icT hM_107 rfl (cI_neT c3) ?_
  refine Ev.run (c' := (47, [.ref 27, .int x1, .int x2, .int x3, jk], [.int x1, .ref 28], hp E w2)) hM_107 3 rfl ?_
  subst g1
  refine Ev.iald hM_107 rfl (a := 28) rfl (inb_I b1 (by decide)) ?_
  rw [I_clamp (Nat.lt_of_lt_of_le b1 (by decide))]
  refine Ev.run (c' := (53, [.ref 27, .int (I j1), .int x2, .int x3, jk], [.int (1 : Int32), .int (((gA w2 10 j1) >>> (x2 &&& 31)) &&& (1 : Int32))], hp E w2)) hM_107 5 rfl ?_
  refine Ev.icF hM_107 rfl (cI_neF c4) ?_
  refine Ev.run (c' := (66, [.ref 27, .int (I j1), .int x2, .int x3, .int (1 : Int32)], [.int x3, .int (1 : Int32)], hp E w2)) hM_107 5 rfl ?_
  refine Ev.icT hM_107 rfl (cI_neT c5) ?_
  refine Ev.run (c' := (79, [.ref 27, .int (I j1), .int x2, .int x3, .int (1 : Int32)], [.int (200 : Int32), .int (gF w2 11)], hp E w2)) hM_107 3 rfl ?_
  refine Ev.icF hM_107 rfl (cI_neF c6) ?_
  refine Ev.run (c' := (84, [.ref 27, .int (I j1), .int x2, .int x3, .int (1 : Int32)], [.int (3 : Int32), .ref 27], hp E w2)) hM_107 2 rfl ?_
  refine Ev.callR hd hM_107 rfl (y := 97) (as := [.ref 27, .int (3 : Int32)]) (rest := []) rfl (Nat.le_of_ble_eq_true rfl) h3 ?_
  refine Ev.run (c' := (89, [.ref 27, .int (I j1), .int x2, .int x3, .int (1 : Int32)], [.int (0 : Int32)], hp E w3)) hM_107 2 rfl ?_
  exact Ev.fin hM_107 rfl rfl
theorem p107_e_e {E : Nat × (Nat → Int32)} {w : Wd} {d : Nat} {x1 x2 x3 : Int32} {w1 : Wd} {v1 : Int32} {w2 : Wd} {v2 : Int32} {j1 : Nat} {z1 : Int32} {w3 : Wd} {z2 : Int32} {w4 : Wd} {w5 : Wd} {v3 : Int32} {w' : Wd} (hd : 1 ≤ d) (h1 : Ev (d - 1) 98 (ent0 98 [.ref 27, .int x1] (hp E (sF 8 (0 : Int32) w))) (.inl (some (.int v1)), hp E w1)) (c1 : ¬ v1 = 0) (h2 : Ev (d - 1) 98 (ent0 98 [.ref 27, .int x2] (hp E w1)) (.inl (some (.int v2)), hp E w2)) (c2 : ¬ v2 = 0) (c3 : ¬ x1 = x2) (g1 : x1 = I j1) (b1 : j1 < 9) (c4 : (((gA w2 10 j1) >>> (x2 &&& 31)) &&& (1 : Int32)) = (1 : Int32)) (c5 : ¬ (1 : Int32) = x3) (c6 : ¬ (gF w2 11) = (200 : Int32)) (a1 : (I j1) = z1) (h3 : Ev (d - 1) 106 (ent0 106 [.ref 27, .int z1, .int x2, .int (1 : Int32)] (hp E w2)) (.inl none, hp E w3)) (a2 : (I j1) = z2) (h4 : Ev (d - 1) 104 (ent0 104 [.ref 27, .int z2, .int x2, .int x3] (hp E w3)) (.inl none, hp E w4)) (h5 : Ev (d - 1) 99 (ent0 99 [.ref 27] (hp E w4)) (.inl (some (.int v3)), hp E w5)) (qw : (sF 10 v3 w5) = w') : Ev d 107 (ent0 107 [.ref 27, .int x1, .int x2, .int x3] (hp E w)) (.inl (some (.int (1 : Int32))), hp E w') := by
  subst qw
  refine Ev.run (c' := (7, [.ref 27, .int x1, .int x2, .int x3, jk], [.int x1, .ref 27], hp E (sF 8 (0 : Int32) w))) hM_107 5 rfl ?_
  refine Ev.callR hd hM_107 rfl (y := 98) (as := [.ref 27, .int x1]) (rest := []) rfl (Nat.le_of_ble_eq_true rfl) h1 ?_
  refine Ev.run (c' := (10, [.ref 27, .int x1, .int x2, .int x3, jk], [.int v1], hp E w1)) hM_107 0 rfl ?_
  refine Ev.ifF hM_107 rfl (cI_eqF c1) ?_
  refine Ev.run (c' := (15, [.ref 27, .int x1, .int x2, .int x3, jk], [.int x2, .ref 27], hp E w1)) hM_107 2 rfl ?_
  refine Ev.callR hd hM_107 rfl (y := 98) (as := [.ref 27, .int x2]) (rest := []) rfl (Nat.le_of_ble_eq_true rfl) h2 ?_
  refine Ev.run (c' := (18, [.ref 27, .int x1, .int x2, .int x3, jk], [.int v2], hp E w2)) hM_107 0 rfl ?_
  refine Ev.ifT hM_107 rfl (cI_neT c2) ?_
  refine Ev.run (c' := (31, [.ref 27, .int x1, .int x2, .int x3, jk], [.int x2, .int x1], hp E w2)) hM_107 2 rfl ?_
  refine Ev.icT hM_107 rfl (cI_neT c3) ?_
  refine Ev.run (c' := (47, [.ref 27, .int x1, .int x2, .int x3, jk], [.int x1, .ref 28], hp E w2)) hM_107 3 rfl ?_
  subst g1
  refine Ev.iald hM_107 rfl (a := 28) rfl (inb_I b1 (by decide)) ?_
  rw [I_clamp (Nat.lt_of_lt_of_le b1 (by decide))]
  refine Ev.run (c' := (53, [.ref 27, .int (I j1), .int x2, .int x3, jk], [.int (1 : Int32), .int (((gA w2 10 j1) >>> (x2 &&& 31)) &&& (1 : Int32))], hp E w2)) hM_107 5 rfl ?_
  refine Ev.icF hM_107 rfl (cI_neF c4) ?_
  refine Ev.run (c' := (66, [.ref 27, .int (I j1), .int x2, .int x3, .int (1 : Int32)], [.int x3, .int (1 : Int32)], hp E w2)) hM_107 5 rfl ?_
  refine Ev.icT hM_107 rfl (cI_neT c5) ?_
  refine Ev.run (c' := (79, [.ref 27, .int (I j1), .int x2, .int x3, .int (1 : Int32)], [.int (200 : Int32), .int (gF w2 11)], hp E w2)) hM_107 3 rfl ?_
  refine Ev.icT hM_107 rfl (cI_neT c6) ?_
  refine Ev.run (c' := (95, [.ref 27, .int (I j1), .int x2, .int x3, .int (1 : Int32)], [.int (1 : Int32), .int x2, .int (I j1), .ref 27], hp E w2)) hM_107 4 rfl ?_
  refine Ev.ifF hM_107 rfl (by decide) ?_
  refine Ev.run (c' := (103, [.ref 27, .int (I j1), .int x2, .int x3, .int (1 : Int32)], [.int (1 : Int32), .int x2, .int (I j1), .ref 27], hp E w2)) hM_107 2 rfl ?_
  rw [← a1] at h3
  refine Ev.callR hd hM_107 rfl (y := 106) (as := [.ref 27, .int (I j1), .int x2, .int (1 : Int32)]) (rest := []) rfl (Nat.le_of_ble_eq_true rfl) h3 ?_
  refine Ev.run (c' := (110, [.ref 27, .int (I j1), .int x2, .int x3, .int (1 : Int32)], [.int x3, .int x2, .int (I j1), .ref 27], hp E w3)) hM_107 4 rfl ?_
  rw [← a2] at h4
  refine Ev.callR hd hM_107 rfl (y := 104) (as := [.ref 27, .int (I j1), .int x2, .int x3]) (rest := []) rfl (Nat.le_of_ble_eq_true rfl) h4 ?_
  refine Ev.run (c' := (115, [.ref 27, .int (I j1), .int x2, .int x3, .int (1 : Int32)], [.ref 27, .ref 27], hp E w4)) hM_107 2 rfl ?_
  refine Ev.callR hd hM_107 rfl (y := 99) (as := [.ref 27]) (rest := [.ref 27]) rfl (Nat.le_of_ble_eq_true rfl) h5 ?_
  refine Ev.run (c' := (123, [.ref 27, .int (I j1), .int x2, .int x3, .int (1 : Int32)], [.int (1 : Int32)], hp E (sF 10 v3 w5))) hM_107 2 rfl ?_
  exact Ev.fin hM_107 rfl rfl
theorem p107_e_f {E : Nat × (Nat → Int32)} {w : Wd} {d : Nat} {x1 x2 x3 : Int32} {w1 : Wd} {v1 : Int32} {w2 : Wd} {v2 : Int32} {j1 : Nat} (hd : 1 ≤ d) (h1 : Ev (d - 1) 98 (ent0 98 [.ref 27, .int x1] (hp E (sF 8 (0 : Int32) w))) (.inl (some (.int v1)), hp E w1)) (c1 : ¬ v1 = 0) (h2 : Ev (d - 1) 98 (ent0 98 [.ref 27, .int x2] (hp E w1)) (.inl (some (.int v2)), hp E w2)) (c2 : ¬ v2 = 0) (c3 : ¬ x1 = x2) (g1 : x1 = I j1) (b1 : j1 < 9) (c4 : ¬ (((gA w2 10 j1) >>> (x2 &&& 31)) &&& (1 : Int32)) = (1 : Int32)) (c5 : (0 : Int32) = x3) : Ev d 107 (ent0 107 [.ref 27, .int x1, .int x2, .int x3] (hp E w)) (.inl (some (.int (0 : Int32))), hp E w2) := by
  refine Ev.run (c' := (7, [.ref 27, .int x1, .int x2, .int x3, jk], [.int x1, .ref 27], hp E (sF 8 (0 : Int32) w))) hM_107 5 rfl ?_
  refine Ev.callR hd hM_107 rfl (y := 98) (as := [.ref 27, .int x1]) (rest := []) rfl (Nat.le_of_ble_eq_true rfl) h1 ?_
  refine Ev.run (c' := (10, [.ref 27, .int x1, .int x2, .int x3, jk], [.int v1], hp E w1)) hM_107 0 rfl ?_
  refine Ev.ifF hM_107 rfl (cI_eqF c1) ?_
  refine Ev.run (c' := (15, [.ref 27, .int x1, .int x2, .int x3, jk], [.int x2, .ref 27], hp E w1)) hM_107 2 rfl ?_
  refine Ev.callR hd hM_107 rfl (y := 98) (as := [.ref 27, .int x2]) (rest := []) rfl (Nat.le_of_ble_eq_true rfl) h2 ?_
  refine Ev.run (c' := (18, [.ref 27, .int x1, .int x2, .int x3, jk], [.int v2], hp E w2)) hM_107 0 rfl ?_
  refine Ev.ifT hM_107 rfl (cI_neT c2) ?_
  refine Ev.run (c' := (31, [.ref 27, .int x1, .int x2, .int x3, jk], [.int x2, .int x1], hp E w2)) hM_107 2 rfl ?_
  refine Ev.icT hM_107 rfl (cI_neT c3) ?_
  refine Ev.run (c' := (47, [.ref 27, .int x1, .int x2, .int x3, jk], [.int x1, .ref 28], hp E w2)) hM_107 3 rfl ?_
  subst g1
  refine Ev.iald hM_107 rfl (a := 28) rfl (inb_I b1 (by decide)) ?_
  rw [I_clamp (Nat.lt_of_lt_of_le b1 (by decide))]
  refine Ev.run (c' := (53, [.ref 27, .int (I j1), .int x2, .int x3, jk], [.int (1 : Int32), .int (((gA w2 10 j1) >>> (x2 &&& 31)) &&& (1 : Int32))], hp E w2)) hM_107 5 rfl ?_
  refine Ev.icT hM_107 rfl (cI_neT c4) ?_
  refine Ev.run (c' := (66, [.ref 27, .int (I j1), .int x2, .int x3, .int (0 : Int32)], [.int x3, .int (0 : Int32)], hp E w2)) hM_107 4 rfl ?_
  refine Ev.icF hM_107 rfl (cI_neF c5) ?_
  refine Ev.run (c' := (71, [.ref 27, .int (I j1), .int x2, .int x3, .int (0 : Int32)], [.int (0 : Int32)], hp E w2)) hM_107 1 rfl ?_
  exact Ev.fin hM_107 rfl rfl
theorem p107_e_g {E : Nat × (Nat → Int32)} {w : Wd} {d : Nat} {x1 x2 x3 : Int32} {w1 : Wd} {v1 : Int32} {w2 : Wd} {v2 : Int32} {j1 : Nat} {w3 : Wd} {v3 : Int32} (hd : 1 ≤ d) (h1 : Ev (d - 1) 98 (ent0 98 [.ref 27, .int x1] (hp E (sF 8 (0 : Int32) w))) (.inl (some (.int v1)), hp E w1)) (c1 : ¬ v1 = 0) (h2 : Ev (d - 1) 98 (ent0 98 [.ref 27, .int x2] (hp E w1)) (.inl (some (.int v2)), hp E w2)) (c2 : ¬ v2 = 0) (c3 : ¬ x1 = x2) (g1 : x1 = I j1) (b1 : j1 < 9) (c4 : ¬ (((gA w2 10 j1) >>> (x2 &&& 31)) &&& (1 : Int32)) = (1 : Int32)) (c5 : ¬ (0 : Int32) = x3) (c6 : (gF w2 11) = (200 : Int32)) (h3 : Ev (d - 1) 97 (ent0 97 [.ref 27, .int (3 : Int32)] (hp E w2)) (.inl (some (.int v3)), hp E w3)) : Ev d 107 (ent0 107 [.ref 27, .int x1, .int x2, .int x3] (hp E w)) (.inl (some (.int (0 : Int32))), hp E w3) := by
  refine Ev.run (c' := (7, [.ref 27, .int x1, .int x2, .int x3, jk], [.int x1, .ref 27], hp E (sF 8 (0 : Int32) w))) hM_107 5 rfl ?_
  refine Ev.callR hd hM_107 rfl (y := 98) (as := [.ref 27, .int x1]) (rest := []) rfl (Nat.le_of_ble_eq_true rfl) h1 ?_
  refine Ev.run (c' := (10, [.ref 27, .int x1, .int x2, .int x3, jk], [.int v1], hp E w1)) hM_107 0 rfl ?_
  refine Ev.ifF hM_107 rfl (cI_eqF c1) ?_
  refine Ev.run (c' := (15, [.ref 27, .int x1, .int x2, .int x3, jk], [.int x2, .ref 27], hp E w1)) hM_107 2 rfl ?_
  refine Ev.callR hd hM_107 rfl (y := 98) (as := [.ref 27, .int x2]) (rest := []) rfl (Nat.le_of_ble_eq_true rfl) h2 ?_
  refine Ev.run (c' := (18, [.ref 27, .int x1, .int x2, .int x3, jk], [.int v2], hp E w2)) hM_107 0 rfl ?_
  refine Ev.ifT hM_107 rfl (cI_neT c2) ?_
  refine Ev.run (c' := (31, [.ref 27, .int x1, .int x2, .int x3, jk], [.int x2, .int x1], hp E w2)) hM_107 2 rfl ?_
  refine Ev.icT hM_107 rfl (cI_neT c3) ?_
  refine Ev.run (c' := (47, [.ref 27, .int x1, .int x2, .int x3, jk], [.int x1, .ref 28], hp E w2)) hM_107 3 rfl ?_
  subst g1
  refine Ev.iald hM_107 rfl (a := 28) rfl (inb_I b1 (by decide)) ?_
  rw [I_clamp (Nat.lt_of_lt_of_le b1 (by decide))]
  refine Ev.run (c' := (53, [.ref 27, .int (I j1), .int x2, .int x3, jk], [.int (1 : Int32), .int (((gA w2 10 j1) >>> (x2 &&& 31)) &&& (1 : Int32))], hp E w2)) hM_107 5 rfl ?_
  refine Ev.icT hM_107 rfl (cI_neT c4) ?_
  refine Ev.run (c' := (66, [.ref 27, .int (I j1), .int x2, .int x3, .int (0 : Int32)], [.int x3, .int (0 : Int32)], hp E w2)) hM_107 4 rfl ?_
  refine Ev.icT hM_107 rfl (cI_neT c5) ?_
  refine Ev.run (c' := (79, [.ref 27, .int (I j1), .int x2, .int x3, .int (0 : Int32)], [.int (200 : Int32), .int (gF w2 11)], hp E w2)) hM_107 3 rfl ?_
  refine Ev.icF hM_107 rfl (cI_neF c6) ?_
  refine Ev.run (c' := (84, [.ref 27, .int (I j1), .int x2, .int x3, .int (0 : Int32)], [.int (3 : Int32), .ref 27], hp E w2)) hM_107 2 rfl ?_
  refine Ev.callR hd hM_107 rfl (y := 97) (as := [.ref 27, .int (3 : Int32)]) (rest := []) rfl (Nat.le_of_ble_eq_true rfl) h3 ?_
  refine Ev.run (c' := (89, [.ref 27, .int (I j1), .int x2, .int x3, .int (0 : Int32)], [.int (0 : Int32)], hp E w3)) hM_107 2 rfl ?_
  exact Ev.fin hM_107 rfl rfl
theorem p107_e_h {E : Nat × (Nat → Int32)} {w : Wd} {d : Nat} {x1 x2 x3 : Int32} {w1 : Wd} {v1 : Int32} {w2 : Wd} {v2 : Int32} {j1 : Nat} {z1 : Int32} {w3 : Wd} {z2 : Int32} {w4 : Wd} {w5 : Wd} {v3 : Int32} {w' : Wd} (hd : 1 ≤ d) (h1 : Ev (d - 1) 98 (ent0 98 [.ref 27, .int x1] (hp E (sF 8 (0 : Int32) w))) (.inl (some (.int v1)), hp E w1)) (c1 : ¬ v1 = 0) (h2 : Ev (d - 1) 98 (ent0 98 [.ref 27, .int x2] (hp E w1)) (.inl (some (.int v2)), hp E w2)) (c2 : ¬ v2 = 0) (c3 : ¬ x1 = x2) (g1 : x1 = I j1) (b1 : j1 < 9) (c4 : ¬ (((gA w2 10 j1) >>> (x2 &&& 31)) &&& (1 : Int32)) = (1 : Int32)) (c5 : ¬ (0 : Int32) = x3) (c6 : ¬ (gF w2 11) = (200 : Int32)) (a1 : (I j1) = z1) (h3 : Ev (d - 1) 106 (ent0 106 [.ref 27, .int z1, .int x2, .int (0 : Int32)] (hp E w2)) (.inl none, hp E w3)) (a2 : (I j1) = z2) (h4 : Ev (d - 1) 104 (ent0 104 [.ref 27, .int z2, .int x2, .int x3] (hp E w3)) (.inl none, hp E w4)) (h5 : Ev (d - 1) 99 (ent0 99 [.ref 27] (hp E w4)) (.inl (some (.int v3)), hp E w5)) (qw : (sF 10 v3 w5) = w') : Ev d 107 (ent0 107 [.ref 27, .int x1, .int x2, .int x3] (hp E w)) (.inl (some (.int (0 : Int32))), hp E w') := by
  subst qw
  refine Ev.run (c' := (7, [.ref 27, .int x1, .int x2, .int x3, jk], [.int x1, .ref 27], hp E (sF 8 (0 : Int32) w))) hM_107 5 rfl ?_
  refine Ev.callR hd hM_107 rfl (y := 98) (as := [.ref 27, .int x1]) (rest := []) rfl (Nat.le_of_ble_eq_true rfl) h1 ?_
  refine Ev.run (c' := (10, [.ref 27, .int x1, .int x2, .int x3, jk], [.int v1], hp E w1)) hM_107 0 rfl ?_
  refine Ev.ifF hM_107 rfl (cI_eqF c1) ?_
  refine Ev.run (c' := (15, [.ref 27, .int x1, .int x2, .int x3, jk], [.int x2, .ref 27], hp E w1)) hM_107 2 rfl ?_
  refine Ev.callR hd hM_107 rfl (y := 98) (as := [.ref 27, .int x2]) (rest := []) rfl (Nat.le_of_ble_eq_true rfl) h2 ?_
  refine Ev.run (c' := (18, [.ref 27, .int x1, .int x2, .int x3, jk], [.int v2], hp E w2)) hM_107 0 rfl ?_
  refine Ev.ifT hM_107 rfl (cI_neT c2) ?_
  refine Ev.run (c' := (31, [.ref 27, .int x1, .int x2, .int x3, jk], [.int x2, .int x1], hp E w2)) hM_107 2 rfl ?_
  refine Ev.icT hM_107 rfl (cI_neT c3) ?_
  refine Ev.run (c' := (47, [.ref 27, .int x1, .int x2, .int x3, jk], [.int x1, .ref 28], hp E w2)) hM_107 3 rfl ?_
  subst g1
  refine Ev.iald hM_107 rfl (a := 28) rfl (inb_I b1 (by decide)) ?_
  rw [I_clamp (Nat.lt_of_lt_of_le b1 (by decide))]
  refine Ev.run (c' := (53, [.ref 27, .int (I j1), .int x2, .int x3, jk], [.int (1 : Int32), .int (((gA w2 10 j1) >>> (x2 &&& 31)) &&& (1 : Int32))], hp E w2)) hM_107 5 rfl ?_
  refine Ev.icT hM_107 rfl (cI_neT c4) ?_
  refine Ev.run (c' := (66, [.ref 27, .int (I j1), .int x2, .int x3, .int (0 : Int32)], [.int x3, .int (0 : Int32)], hp E w2)) hM_107 4 rfl ?_
  refine Ev.icT hM_107 rfl (cI_neT c5) ?_
  refine Ev.run (c' := (79, [.ref 27, .int (I j1), .int x2, .int x3, .int (0 : Int32)], [.int (200 : Int32), .int (gF w2 11)], hp E w2)) hM_107 3 rfl ?_
  refine Ev.icT hM_107 rfl (cI_neT c6) ?_
  refine Ev.run (c' := (95, [.ref 27, .int (I j1), .int x2, .int x3, .int (0 : Int32)], [.int (0 : Int32), .int x2, .int (I j1), .ref 27], hp E w2)) hM_107 4 rfl ?_
  refine Ev.ifT hM_107 rfl (by decide) ?_
  refine Ev.run (c' := (103, [.ref 27, .int (I j1), .int x2, .int x3, .int (0 : Int32)], [.int (0 : Int32), .int x2, .int (I j1), .ref 27], hp E w2)) hM_107 1 rfl ?_
  rw [← a1] at h3
  refine Ev.callR hd hM_107 rfl (y := 106) (as := [.ref 27, .int (I j1), .int x2, .int (0 : Int32)]) (rest := []) rfl (Nat.le_of_ble_eq_true rfl) h3 ?_
  refine Ev.run (c' := (110, [.ref 27, .int (I j1), .int x2, .int x3, .int (0 : Int32)], [.int x3, .int x2, .int (I j1), .ref 27], hp E w3)) hM_107 4 rfl ?_
  rw [← a2] at h4
  refine Ev.callR hd hM_107 rfl (y := 104) (as := [.ref 27, .int (I j1), .int x2, .int x3]) (rest := []) rfl (Nat.le_of_ble_eq_true rfl) h4 ?_
  refine Ev.run (c' := (115, [.ref 27, .int (I j1), .int x2, .int x3, .int (0 : Int32)], [.ref 27, .ref 27], hp E w4)) hM_107 2 rfl ?_
  refine Ev.callR hd hM_107 rfl (y := 99) (as := [.ref 27]) (rest := [.ref 27]) rfl (Nat.le_of_ble_eq_true rfl) h5 ?_
  refine Ev.run (c' := (123, [.ref 27, .int (I j1), .int x2, .int x3, .int (0 : Int32)], [.int (0 : Int32)], hp E (sF 10 v3 w5))) hM_107 2 rfl ?_
  exact Ev.fin hM_107 rfl rfl
theorem p107_e_i {E : Nat × (Nat → Int32)} {w : Wd} {d : Nat} {x1 x2 x3 : Int32} {w1 : Wd} {v1 : Int32} {w2 : Wd} {v2 : Int32} (hd : 1 ≤ d) (h1 : Ev (d - 1) 98 (ent0 98 [.ref 27, .int x1] (hp E (sF 8 (0 : Int32) w))) (.inl (some (.int v1)), hp E w1)) (c1 : v1 = 0) (h2 : Ev (d - 1) 97 (ent0 97 [.ref 27, .int (1 : Int32)] (hp E w1)) (.inl (some (.int v2)), hp E w2)) : Ev d 107 (ent0 107 [.ref 27, .int x1, .int x2, .int x3] (hp E w)) (.inl (some (.int (0 : Int32))), hp E w2) := by
  refine Ev.run (c' := (7, [.ref 27, .int x1, .int x2, .int x3, jk], [.int x1, .ref 27], hp E (sF 8 (0 : Int32) w))) hM_107 5 rfl ?_
  refine Ev.callR hd hM_107 rfl (y := 98) (as := [.ref 27, .int x1]) (rest := []) rfl (Nat.le_of_ble_eq_true rfl) h1 ?_
  refine Ev.run (c' := (10, [.ref 27, .int x1, .int x2, .int x3, jk], [.int v1], hp E w1)) hM_107 0 rfl ?_
  refine Ev.ifT hM_107 rfl (cI_eqT c1) ?_
  refine Ev.run (c' := (23, [.ref 27, .int x1, .int x2, .int x3, jk], [.int (1 : Int32), .ref 27], hp E w1)) hM_107 2 rfl ?_
  refine Ev.callR hd hM_107 rfl (y := 97) (as := [.ref 27, .int (1 : Int32)]) (rest := []) rfl (Nat.le_of_ble_eq_true rfl) h2 ?_
  refine Ev.run (c' := (28, [.ref 27, .int x1, .int x2, .int x3, jk], [.int (0 : Int32)], hp E w2)) hM_107 2 rfl ?_
  exact Ev.fin hM_107 rfl rfl
theorem hM_108 : mAt 108 = some km_X8_behind := rfl
theorem p108_e_a {E : Nat × (Nat → Int32)} {w : Wd} {d : Nat} {x1 x2 : Int32} {o : Ou} {y3 : Int32} (q3 : (x1 &&& (((1 : Int32) <<< (x2 &&& 31)) ^^^ (-1 : Int32))) = y3) (e : Ev d 108 (14, [.ref 27, .int x1, .int x2, .int y3, .int (0 : Int32), .int (0 : Int32)], [], hp E w) o) : Ev d 108 (ent0 108 [.ref 27, .int x1, .int x2] (hp E w)) o := by
  subst q3
  refine Ev.run (c' := (14, [.ref 27, .int x1, .int x2, .int (x1 &&& (((1 : Int32) <<< (x2 &&& 31)) ^^^ (-1 : Int32))), .int (0 : Int32), .int (0 : Int32)], [], hp E w)) hM_108 12 rfl ?_
  exact e
theorem p108_14_a {E : Nat × (Nat → Int32)} {w : Wd} {d : Nat} {x1 x2 x3 x4 x5 : Int32} {o : Ou} {j1 : Nat} {y4 : Int32} {y5 : Int32} (c1 : x5 < (gF w 9)) (c2 : ((x3 >>> (x5 &&& 31)) &&& (1 : Int32)) = (1 : Int32)) (g1 : x5 = I j1) (b1 : j1 < 9) (q4 : (x4 ||| (gA w 10 j1)) = y4) (q5 : ((I j1) + (1 : Int32)) = y5) (e : Ev d 108 (14, [.ref 27, .int x1, .int x2, .int x3, .int y4, .int y5], [], hp E w) o) : Ev d 108 (14, [.ref 27, .int x1, .int x2, .int x3, .int x4, .int x5], [], hp E w) o := by
  subst q5
  subst q4
  refine Ev.run (c' := (20, [.ref 27, .int x1, .int x2, .int x3, .int x4, .int x5], [.int (gF w 9), .int x5], hp E w)) hM_108 3 rfl ?_
  refine Ev.icF hM_108 rfl (cI_geF c1) ?_
  refine Ev.run (c' := (32, [.ref 27, .int x1, .int x2, .int x3, .int x4, .int x5], [.int (1 : Int32), .int ((x3 >>> (x5 &&& 31)) &&& (1 : Int32)), .int x4], hp E w)) hM_108 7 rfl ?_
  refine Ev.icF hM_108 rfl (cI_neF c2) ?_
  refine Ev.run (c' := (41, [.ref 27, .int x1, .int x2, .int x3, .int x4, .int x5], [.int x5, .ref 28, .int x4], hp E w)) hM_108 3 rfl ?_
  subst g1
  refine Ev.iald hM_108 rfl (a := 28) rfl (inb_I b1 (by decide)) ?_
  rw [I_clamp (Nat.lt_of_lt_of_le b1 (by decide))]
  refine Ev.run (c' := (14, [.ref 27, .int x1, .int x2, .int x3, .int (x4 ||| (gA w 10 j1)), .int ((I j1) + (1 : Int32))], [], hp E w)) hM_108 5 rfl ?_
  exact e
theorem p108_14_b {E : Nat × (Nat → Int32)} {w : Wd} {d : Nat} {x1 x2 x3 x4 x5 : Int32} {o : Ou} {y4 : Int32} {y5 : Int32} (c1 : x5 < (gF w 9)) (c2 : ¬ ((x3 >>> (x5 &&& 31)) &&& (1 : Int32)) = (1 : Int32)) (q4 : (x4 ||| (0 : Int32)) = y4) (q5 : (x5 + (1 : Int32)) = y5) (e : Ev d 108 (14, [.ref 27, .int x1, .int x2, .int x3, .int y4, .int y5], [], hp E w) o) : Ev d 108 (14, [.ref 27, .int x1, .int x2, .int x3, .int x4, .int x5], [], hp E w) o := by
  subst q5
  subst q4
  refine Ev.run (c' := (20, [.ref 27, .int x1, .int x2, .int x3, .int x4, .int x5], [.int (gF w 9), .int x5], hp E w)) hM_108 3 rfl ?_
  refine Ev.icF hM_108 rfl (cI_geF c1) ?_
  refine Ev.run (c' := (32, [.ref 27, .int x1, .int x2, .int x3, .int x4, .int x5], [.int (1 : Int32), .int ((x3 >>> (x5 &&& 31)) &&& (1 : Int32)), .int x4], hp E w)) hM_108 7 rfl ?_
  refine Ev.icT hM_108 rfl (cI_neT c2) ?_
  refine Ev.run (c' := (14, [.ref 27, .int x1, .int x2, .int x3, .int (x4 ||| (0 : Int32)), .int (x5 + (1 : Int32))], [], hp E w)) hM_108 5 rfl ?_
  exact e
theorem p108_14_c {E : Nat × (Nat → Int32)} {w : Wd} {d : Nat} {x1 x2 x3 x4 x5 : Int32}  (c1 : ¬ x5 < (gF w 9)) : Ev d 108 (14, [.ref 27, .int x1, .int x2, .int x3, .int x4, .int x5], [], hp E w) (.inl (some (.int x4)), hp E w) := by
  refine Ev.run (c' := (20, [.ref 27, .int x1, .int x2, .int x3, .int x4, .int x5], [.int (gF w 9), .int x5], hp E w)) hM_108 3 rfl ?_
  refine Ev.icT hM_108 rfl (cI_geT c1) ?_
  refine Ev.run (c' := (57, [.ref 27, .int x1, .int x2, .int x3, .int x4, .int x5], [.int x4], hp E w)) hM_108 1 rfl ?_
  exact Ev.fin hM_108 rfl rfl
theorem hM_109 : mAt 109 = some km_X8_shoot := rfl
theorem p109_e_a {E : Nat × (Nat → Int32)} {w : Wd} {d : Nat} {x1 : Int32} {w1 : Wd} {v1 : Int32} {w2 : Wd} {v2 : Int32} (hd : 1 ≤ d) (h1 : Ev (d - 1) 98 (ent0 98 [.ref 27, .int x1] (hp E (sF 8 (0 : Int32) w))) (.inl (some (.int v1)), hp E w1)) (c1 : v1 = 0) (h2 : Ev (d - 1) 97 (ent0 97 [.ref 27, .int (1 : Int32)] (hp E w1)) (.inl (some (.int v2)), hp E w2)) : Ev d 109 (ent0 109 [.ref 27, .int x1] (hp E w)) (.inl (some (.int v2)), hp E w2) := by
  refine Ev.run (c' := (7, [.ref 27, .int x1], [.int x1, .ref 27], hp E (sF 8 (0 : Int32) w))) hM_109 5 rfl ?_
  refine Ev.callR hd hM_109 rfl (y := 98) (as := [.ref 27, .int x1]) (rest := []) rfl (Nat.le_of_ble_eq_true rfl) h1 ?_
  refine Ev.run (c' := (10, [.ref 27, .int x1], [.int v1], hp E w1)) hM_109 0 rfl ?_
  refine Ev.ifF hM_109 rfl (cI_neF c1) ?_
  refine Ev.run (c' := (15, [.ref 27, .int x1], [.int (1 : Int32), .ref 27], hp E w1)) hM_109 2 rfl ?_
  refine Ev.callR hd hM_109 rfl (y := 97) (as := [.ref 27, .int (1 : Int32)]) (rest := []) rfl (Nat.le_of_ble_eq_true rfl) h2 ?_
  refine Ev.run (c' := (18, [.ref 27, .int x1], [.int v2], hp E w2)) hM_109 0 rfl ?_
  exact Ev.fin hM_109 rfl rfl
theorem p109_e_b {E : Nat × (Nat → Int32)} {w : Wd} {d : Nat} {x1 : Int32} {w1 : Wd} {v1 : Int32} {w2 : Wd} {v2 : Int32} (hd : 1 ≤ d) (h1 : Ev (d - 1) 98 (ent0 98 [.ref 27, .int x1] (hp E (sF 8 (0 : Int32) w))) (.inl (some (.int v1)), hp E w1)) (c1 : ¬ v1 = 0) (c2 : ¬ (gF w1 10) = 0) (c3 : (gF w1 11) = (200 : Int32)) (h2 : Ev (d - 1) 97 (ent0 97 [.ref 27, .int (2 : Int32)] (hp E w1)) (.inl (some (.int v2)), hp E w2)) : Ev d 109 (ent0 109 [.ref 27, .int x1] (hp E w)) (.inl (some (.int v2)), hp E w2) := by
  refine Ev.run (c' := (7, [.ref 27, .int x1], [.int x1, .ref 27], hp E (sF 8 (0 : Int32) w))) hM_109 5 rfl ?_
  refine Ev.callR hd hM_109 rfl (y := 98) (as := [.ref 27, .int x1]) (rest := []) rfl (Nat.le_of_ble_eq_true rfl) h1 ?_
  refine Ev.run (c' := (10, [.ref 27, .int x1], [.int v1], hp E w1)) hM_109 0 rfl ?_
  refine Ev.ifT hM_109 rfl (cI_neT c1) ?_
  refine Ev.run (c' := (23, [.ref 27, .int x1], [.int (gF w1 10)], hp E w1)) hM_109 2 rfl ?_
  refine Ev.ifF hM_109 rfl (cI_eqF c2) ?_
  refine Ev.run (c' := (33, [.ref 27, .int x1], [.int (200 : Int32), .int (gF w1 11)], hp E w1)) hM_109 3 rfl ?_
  refine Ev.icF hM_109 rfl (cI_neF c3) ?_
  refine Ev.run (c' := (38, [.ref 27, .int x1], [.int (2 : Int32), .ref 27], hp E w1)) hM_109 2 rfl ?_
  refine Ev.callR hd hM_109 rfl (y := 97) (as := [.ref 27, .int (2 : Int32)]) (rest := []) rfl (Nat.le_of_ble_eq_true rfl) h2 ?_
  refine Ev.run (c' := (41, [.ref 27, .int x1], [.int v2], hp E w2)) hM_109 0 rfl ?_
  exact Ev.fin hM_109 rfl rfl
theorem p109_e_c {E : Nat × (Nat → Int32)} {w : Wd} {d : Nat} {x1 : Int32} {w1 : Wd} {v1 : Int32} {w2 : Wd} {z1 : Int32} {w3 : Wd} {v2 : Int32} {y : Int32} {w' : Wd} (hd : 1 ≤ d) (h1 : Ev (d - 1) 98 (ent0 98 [.ref 27, .int x1] (hp E (sF 8 (0 : Int32) w))) (.inl (some (.int v1)), hp E w1)) (c1 : ¬ v1 = 0) (c2 : ¬ (gF w1 10) = 0) (c3 : ¬ (gF w1 11) = (200 : Int32)) (h2 : Ev (d - 1) 106 (ent0 106 [.ref 27, .int (-1 : Int32), .int x1, .int (0 : Int32)] (hp E w1)) (.inl none, hp E w2)) (a1 : (gF w2 10) = z1) (h3 : Ev (d - 1) 108 (ent0 108 [.ref 27, .int z1, .int x1] (hp E w2)) (.inl (some (.int v2)), hp E w3)) (q : (gF (sF 10 v2 w3) 10) = y) (qw : (sF 10 v2 w3) = w') : Ev d 109 (ent0 109 [.ref 27, .int x1] (hp E w)) (.inl (some (.int y)), hp E w') := by
  subst qw
  subst q
  refine Ev.run (c' := (7, [.ref 27, .int x1], [.int x1, .ref 27], hp E (sF 8 (0 : Int32) w))) hM_109 5 rfl ?_
  refine Ev.callR hd hM_109 rfl (y := 98) (as := [.ref 27, .int x1]) (rest := []) rfl (Nat.le_of_ble_eq_true rfl) h1 ?_
  refine Ev.run (c' := (10, [.ref 27, .int x1], [.int v1], hp E w1)) hM_109 0 rfl ?_
  refine Ev.ifT hM_109 rfl (cI_neT c1) ?_
  refine Ev.run (c' := (23, [.ref 27, .int x1], [.int (gF w1 10)], hp E w1)) hM_109 2 rfl ?_
  refine Ev.ifF hM_109 rfl (cI_eqF c2) ?_
  refine Ev.run (c' := (33, [.ref 27, .int x1], [.int (200 : Int32), .int (gF w1 11)], hp E w1)) hM_109 3 rfl ?_
  refine Ev.icT hM_109 rfl (cI_neT c3) ?_
  refine Ev.run (c' := (46, [.ref 27, .int x1], [.int (0 : Int32), .int x1, .int (-1 : Int32), .ref 27], hp E w1)) hM_109 4 rfl ?_
  refine Ev.callR hd hM_109 rfl (y := 106) (as := [.ref 27, .int (-1 : Int32), .int x1, .int (0 : Int32)]) (rest := []) rfl (Nat.le_of_ble_eq_true rfl) h2 ?_
  refine Ev.run (c' := (56, [.ref 27, .int x1], [.int x1, .int (gF w2 10), .ref 27, .ref 27], hp E w2)) hM_109 5 rfl ?_
  rw [← a1] at h3
  refine Ev.callR hd hM_109 rfl (y := 108) (as := [.ref 27, .int (gF w2 10), .int x1]) (rest := [.ref 27]) rfl (Nat.le_of_ble_eq_true rfl) h3 ?_
  refine Ev.run (c' := (66, [.ref 27, .int x1], [.int (gF (sF 10 v2 w3) 10)], hp E (sF 10 v2 w3))) hM_109 3 rfl ?_
  exact Ev.fin hM_109 rfl rfl
theorem p109_e_d {E : Nat × (Nat → Int32)} {w : Wd} {d : Nat} {x1 : Int32} {w1 : Wd} {v1 : Int32} {w2 : Wd} {v2 : Int32} (hd : 1 ≤ d) (h1 : Ev (d - 1) 98 (ent0 98 [.ref 27, .int x1] (hp E (sF 8 (0 : Int32) w))) (.inl (some (.int v1)), hp E w1)) (c1 : ¬ v1 = 0) (c2 : (gF w1 10) = 0) (h2 : Ev (d - 1) 97 (ent0 97 [.ref 27, .int (2 : Int32)] (hp E w1)) (.inl (some (.int v2)), hp E w2)) : Ev d 109 (ent0 109 [.ref 27, .int x1] (hp E w)) (.inl (some (.int v2)), hp E w2) := by
  refine Ev.run (c' := (7, [.ref 27, .int x1], [.int x1, .ref 27], hp E (sF 8 (0 : Int32) w))) hM_109 5 rfl ?_
  refine Ev.callR hd hM_109 rfl (y := 98) (as := [.ref 27, .int x1]) (rest := []) rfl (Nat.le_of_ble_eq_true rfl) h1 ?_
  refine Ev.run (c' := (10, [.ref 27, .int x1], [.int v1], hp E w1)) hM_109 0 rfl ?_
  refine Ev.ifT hM_109 rfl (cI_neT c1) ?_
  refine Ev.run (c' := (23, [.ref 27, .int x1], [.int (gF w1 10)], hp E w1)) hM_109 2 rfl ?_
  refine Ev.ifT hM_109 rfl (cI_eqT c2) ?_
  refine Ev.run (c' := (38, [.ref 27, .int x1], [.int (2 : Int32), .ref 27], hp E w1)) hM_109 2 rfl ?_
  refine Ev.callR hd hM_109 rfl (y := 97) (as := [.ref 27, .int (2 : Int32)]) (rest := []) rfl (Nat.le_of_ble_eq_true rfl) h2 ?_
  refine Ev.run (c' := (41, [.ref 27, .int x1], [.int v2], hp E w2)) hM_109 0 rfl ?_
  exact Ev.fin hM_109 rfl rfl
theorem hM_110 : mAt 110 = some km_X8_back := rfl
theorem p110_e_a {E : Nat × (Nat → Int32)} {w : Wd} {d : Nat} {w1 : Wd} {v1 : Int32} (hd : 1 ≤ d) (c1 : (gF (sF 8 (0 : Int32) w) 11) = 0) (h1 : Ev (d - 1) 97 (ent0 97 [.ref 27, .int (1 : Int32)] (hp E (sF 8 (0 : Int32) w))) (.inl (some (.int v1)), hp E w1)) : Ev d 110 (ent0 110 [.ref 27] (hp E w)) (.inl (some (.int v1)), hp E w1) := by
  refine Ev.run (c' := (9, [.ref 27], [.int (gF (sF 8 (0 : Int32) w) 11)], hp E (sF 8 (0 : Int32) w))) hM_110 5 rfl ?_
  refine Ev.ifF hM_110 rfl (cI_neF c1) ?_
  refine Ev.run (c' := (14, [.ref 27], [.int (1 : Int32), .ref 27], hp E (sF 8 (0 : Int32) w))) hM_110 2 rfl ?_
  refine Ev.callR hd hM_110 rfl (y := 97) (as := [.ref 27, .int (1 : Int32)]) (rest := []) rfl (Nat.le_of_ble_eq_true rfl) h1 ?_
  refine Ev.run (c' := (17, [.ref 27], [.int v1], hp E w1)) hM_110 0 rfl ?_
  exact Ev.fin hM_110 rfl rfl
theorem p110_e_b {E : Nat × (Nat → Int32)} {w : Wd} {d : Nat} {j1 : Nat} {j2 : Nat} {j3 : Nat} {j4 : Nat} {z1 : Int32} {z2 : Int32} {w1 : Wd} {j5 : Nat} {y : Int32} {w' : Wd} (hd : 1 ≤ d) (c1 : ¬ (gF (sF 8 (0 : Int32) w) 11) = 0) (g1 : (gF (sF 11 ((gF (sF 8 (0 : Int32) w) 11) - (1 : Int32)) (sF 8 (0 : Int32) w)) 11) = I j1) (b1 : j1 < 200) (c2 : ¬ (gA (sF 11 ((gF (sF 8 (0 : Int32) w) 11) - (1 : Int32)) (sF 8 (0 : Int32) w)) 11 j1) = (-1 : Int32)) (g2 : (gF (sF 11 ((gF (sF 8 (0 : Int32) w) 11) - (1 : Int32)) (sF 8 (0 : Int32) w)) 11) = I j2) (b2 : j2 < 200) (g3 : (gF (sF 11 ((gF (sF 8 (0 : Int32) w) 11) - (1 : Int32)) (sF 8 (0 : Int32) w)) 11) = I j3) (b3 : j3 < 200) (g4 : (gF (sF 11 ((gF (sF 8 (0 : Int32) w) 11) - (1 : Int32)) (sF 8 (0 : Int32) w)) 11) = I j4) (b4 : j4 < 200) (c3 : (gA (sF 11 ((gF (sF 8 (0 : Int32) w) 11) - (1 : Int32)) (sF 8 (0 : Int32) w)) 13 j4) = (1 : Int32)) (a1 : (gA (sF 11 ((gF (sF 8 (0 : Int32) w) 11) - (1 : Int32)) (sF 8 (0 : Int32) w)) 11 j2) = z1) (a2 : (gA (sF 11 ((gF (sF 8 (0 : Int32) w) 11) - (1 : Int32)) (sF 8 (0 : Int32) w)) 12 j3) = z2) (h1 : Ev (d - 1) 104 (ent0 104 [.ref 27, .int z1, .int z2, .int (1 : Int32)] (hp E (sF 11 ((gF (sF 8 (0 : Int32) w) 11) - (1 : Int32)) (sF 8 (0 : Int32) w)))) (.inl none, hp E w1)) (g5 : (gF w1 11) = I j5) (b5 : j5 < 200) (q : (gF (sF 10 (gA w1 14 j5) w1) 11) = y) (qw : (sF 10 (gA w1 14 j5) w1) = w') : Ev d 110 (ent0 110 [.ref 27] (hp E w)) (.inl (some (.int y)), hp E w') := by
  subst qw
  subst q
  refine Ev.run (c' := (9, [.ref 27], [.int (gF (sF 8 (0 : Int32) w) 11)], hp E (sF 8 (0 : Int32) w))) hM_110 5 rfl ?_
  refine Ev.ifT hM_110 rfl (cI_neT c1) ?_
  refine Ev.run (c' := (36, [.ref 27], [.int (gF (sF 11 ((gF (sF 8 (0 : Int32) w) 11) - (1 : Int32)) (sF 8 (0 : Int32) w)) 11), .ref 29], hp E (sF 11 ((gF (sF 8 (0 : Int32) w) 11) - (1 : Int32)) (sF 8 (0 : Int32) w)))) hM_110 10 rfl ?_
  rw [g1]
  refine Ev.iald hM_110 rfl (a := 29) rfl (inb_I b1 (by decide)) ?_
  rw [I_clamp (Nat.lt_of_lt_of_le b1 (by decide))]
  refine Ev.run (c' := (38, [.ref 27], [.int (-1 : Int32), .int (gA (sF 11 ((gF (sF 8 (0 : Int32) w) 11) - (1 : Int32)) (sF 8 (0 : Int32) w)) 11 j1)], hp E (sF 11 ((gF (sF 8 (0 : Int32) w) 11) - (1 : Int32)) (sF 8 (0 : Int32) w)))) hM_110 1 rfl ?_
  refine Ev.icF hM_110 rfl (cI_eqF c2) ?_
  refine Ev.run (c' := (50, [.ref 27], [.int (gF (sF 11 ((gF (sF 8 (0 : Int32) w) 11) - (1 : Int32)) (sF 8 (0 : Int32) w)) 11), .ref 29, .ref 27], hp E (sF 11 ((gF (sF 8 (0 : Int32) w) 11) - (1 : Int32)) (sF 8 (0 : Int32) w)))) hM_110 5 rfl ?_
  rw [g2]
  refine Ev.iald hM_110 rfl (a := 29) rfl (inb_I b2 (by decide)) ?_
  rw [I_clamp (Nat.lt_of_lt_of_le b2 (by decide))]
  refine Ev.run (c' := (59, [.ref 27], [.int (gF (sF 11 ((gF (sF 8 (0 : Int32) w) 11) - (1 : Int32)) (sF 8 (0 : Int32) w)) 11), .ref 30, .int (gA (sF 11 ((gF (sF 8 (0 : Int32) w) 11) - (1 : Int32)) (sF 8 (0 : Int32) w)) 11 j2), .ref 27], hp E (sF 11 ((gF (sF 8 (0 : Int32) w) 11) - (1 : Int32)) (sF 8 (0 : Int32) w)))) hM_110 4 rfl ?_
  rw [g3]
  refine Ev.iald hM_110 rfl (a := 30) rfl (inb_I b3 (by decide)) ?_
  rw [I_clamp (Nat.lt_of_lt_of_le b3 (by decide))]
  refine Ev.run (c' := (68, [.ref 27], [.int (gF (sF 11 ((gF (sF 8 (0 : Int32) w) 11) - (1 : Int32)) (sF 8 (0 : Int32) w)) 11), .ref 31, .int (gA (sF 11 ((gF (sF 8 (0 : Int32) w) 11) - (1 : Int32)) (sF 8 (0 : Int32) w)) 12 j3), .int (gA (sF 11 ((gF (sF 8 (0 : Int32) w) 11) - (1 : Int32)) (sF 8 (0 : Int32) w)) 11 j2), .ref 27], hp E (sF 11 ((gF (sF 8 (0 : Int32) w) 11) - (1 : Int32)) (sF 8 (0 : Int32) w)))) hM_110 4 rfl ?_
  rw [g4]
  refine Ev.iald hM_110 rfl (a := 31) rfl (inb_I b4 (by decide)) ?_
  rw [I_clamp (Nat.lt_of_lt_of_le b4 (by decide))]
  refine Ev.run (c' := (70, [.ref 27], [.int (1 : Int32), .int (gA (sF 11 ((gF (sF 8 (0 : Int32) w) 11) - (1 : Int32)) (sF 8 (0 : Int32) w)) 13 j4), .int (gA (sF 11 ((gF (sF 8 (0 : Int32) w) 11) - (1 : Int32)) (sF 8 (0 : Int32) w)) 12 j3), .int (gA (sF 11 ((gF (sF 8 (0 : Int32) w) 11) - (1 : Int32)) (sF 8 (0 : Int32) w)) 11 j2), .ref 27], hp E (sF 11 ((gF (sF 8 (0 : Int32) w) 11) - (1 : Int32)) (sF 8 (0 : Int32) w)))) hM_110 1 rfl ?_
  refine Ev.icF hM_110 rfl (cI_neF c3) ?_
  refine Ev.run (c' := (78, [.ref 27], [.int (1 : Int32), .int (gA (sF 11 ((gF (sF 8 (0 : Int32) w) 11) - (1 : Int32)) (sF 8 (0 : Int32) w)) 12 j3), .int (gA (sF 11 ((gF (sF 8 (0 : Int32) w) 11) - (1 : Int32)) (sF 8 (0 : Int32) w)) 11 j2), .ref 27], hp E (sF 11 ((gF (sF 8 (0 : Int32) w) 11) - (1 : Int32)) (sF 8 (0 : Int32) w)))) hM_110 2 rfl ?_
  rw [← a1] at h1
  rw [← a2] at h1
  refine Ev.callR hd hM_110 rfl (y := 104) (as := [.ref 27, .int (gA (sF 11 ((gF (sF 8 (0 : Int32) w) 11) - (1 : Int32)) (sF 8 (0 : Int32) w)) 11 j2), .int (gA (sF 11 ((gF (sF 8 (0 : Int32) w) 11) - (1 : Int32)) (sF 8 (0 : Int32) w)) 12 j3), .int (1 : Int32)]) (rest := []) rfl (Nat.le_of_ble_eq_true rfl) h1 ?_
  refine Ev.run (c' := (90, [.ref 27], [.int (gF w1 11), .ref 32, .ref 27], hp E w1)) hM_110 5 rfl ?_
  rw [g5]
  refine Ev.iald hM_110 rfl (a := 32) rfl (inb_I b5 (by decide)) ?_
  rw [I_clamp (Nat.lt_of_lt_of_le b5 (by decide))]
  refine Ev.run (c' := (98, [.ref 27], [.int (gF (sF 10 (gA w1 14 j5) w1) 11)], hp E (sF 10 (gA w1 14 j5) w1))) hM_110 3 rfl ?_
  exact Ev.fin hM_110 rfl rfl
theorem p110_e_c {E : Nat × (Nat → Int32)} {w : Wd} {d : Nat} {j1 : Nat} {j2 : Nat} {j3 : Nat} {j4 : Nat} {z1 : Int32} {z2 : Int32} {w1 : Wd} {j5 : Nat} {y : Int32} {w' : Wd} (hd : 1 ≤ d) (c1 : ¬ (gF (sF 8 (0 : Int32) w) 11) = 0) (g1 : (gF (sF 11 ((gF (sF 8 (0 : Int32) w) 11) - (1 : Int32)) (sF 8 (0 : Int32) w)) 11) = I j1) (b1 : j1 < 200) (c2 : ¬ (gA (sF 11 ((gF (sF 8 (0 : Int32) w) 11) - (1 : Int32)) (sF 8 (0 : Int32) w)) 11 j1) = (-1 : Int32)) (g2 : (gF (sF 11 ((gF (sF 8 (0 : Int32) w) 11) - (1 : Int32)) (sF 8 (0 : Int32) w)) 11) = I j2) (b2 : j2 < 200) (g3 : (gF (sF 11 ((gF (sF 8 (0 : Int32) w) 11) - (1 : Int32)) (sF 8 (0 : Int32) w)) 11) = I j3) (b3 : j3 < 200) (g4 : (gF (sF 11 ((gF (sF 8 (0 : Int32) w) 11) - (1 : Int32)) (sF 8 (0 : Int32) w)) 11) = I j4) (b4 : j4 < 200) (c3 : ¬ (gA (sF 11 ((gF (sF 8 (0 : Int32) w) 11) - (1 : Int32)) (sF 8 (0 : Int32) w)) 13 j4) = (1 : Int32)) (a1 : (gA (sF 11 ((gF (sF 8 (0 : Int32) w) 11) - (1 : Int32)) (sF 8 (0 : Int32) w)) 11 j2) = z1) (a2 : (gA (sF 11 ((gF (sF 8 (0 : Int32) w) 11) - (1 : Int32)) (sF 8 (0 : Int32) w)) 12 j3) = z2) (h1 : Ev (d - 1) 104 (ent0 104 [.ref 27, .int z1, .int z2, .int (0 : Int32)] (hp E (sF 11 ((gF (sF 8 (0 : Int32) w) 11) - (1 : Int32)) (sF 8 (0 : Int32) w)))) (.inl none, hp E w1)) (g5 : (gF w1 11) = I j5) (b5 : j5 < 200) (q : (gF (sF 10 (gA w1 14 j5) w1) 11) = y) (qw : (sF 10 (gA w1 14 j5) w1) = w') : Ev d 110 (ent0 110 [.ref 27] (hp E w)) (.inl (some (.int y)), hp E w') := by
  subst qw
  subst q
  refine Ev.run (c' := (9, [.ref 27], [.int (gF (sF 8 (0 : Int32) w) 11)], hp E (sF 8 (0 : Int32) w))) hM_110 5 rfl ?_
  refine Ev.ifT hM_110 rfl (cI_neT c1) ?_
  refine Ev.run (c' := (36, [.ref 27], [.int (gF (sF 11 ((gF (sF 8 (0 : Int32) w) 11) - (1 : Int32)) (sF 8 (0 : Int32) w)) 11), .ref 29], hp E (sF 11 ((gF (sF 8 (0 : Int32) w) 11) - (1 : Int32)) (sF 8 (0 : Int32) w)))) hM_110 10 rfl ?_
  rw [g1]
  refine Ev.iald hM_110 rfl (a := 29) rfl (inb_I b1 (by decide)) ?_
  rw [I_clamp (Nat.lt_of_lt_of_le b1 (by decide))]
  refine Ev.run (c' := (38, [.ref 27], [.int (-1 : Int32), .int (gA (sF 11 ((gF (sF 8 (0 : Int32) w) 11) - (1 : Int32)) (sF 8 (0 : Int32) w)) 11 j1)], hp E (sF 11 ((gF (sF 8 (0 : Int32) w) 11) - (1 : Int32)) (sF 8 (0 : Int32) w)))) hM_110 1 rfl ?_
  refine Ev.icF hM_110 rfl (cI_eqF c2) ?_
  refine Ev.run (c' := (50, [.ref 27], [.int (gF (sF 11 ((gF (sF 8 (0 : Int32) w) 11) - (1 : Int32)) (sF 8 (0 : Int32) w)) 11), .ref 29, .ref 27], hp E (sF 11 ((gF (sF 8 (0 : Int32) w) 11) - (1 : Int32)) (sF 8 (0 : Int32) w)))) hM_110 5 rfl ?_
  rw [g2]
  refine Ev.iald hM_110 rfl (a := 29) rfl (inb_I b2 (by decide)) ?_
  rw [I_clamp (Nat.lt_of_lt_of_le b2 (by decide))]
  refine Ev.run (c' := (59, [.ref 27], [.int (gF (sF 11 ((gF (sF 8 (0 : Int32) w) 11) - (1 : Int32)) (sF 8 (0 : Int32) w)) 11), .ref 30, .int (gA (sF 11 ((gF (sF 8 (0 : Int32) w) 11) - (1 : Int32)) (sF 8 (0 : Int32) w)) 11 j2), .ref 27], hp E (sF 11 ((gF (sF 8 (0 : Int32) w) 11) - (1 : Int32)) (sF 8 (0 : Int32) w)))) hM_110 4 rfl ?_
  rw [g3]
  refine Ev.iald hM_110 rfl (a := 30) rfl (inb_I b3 (by decide)) ?_
  rw [I_clamp (Nat.lt_of_lt_of_le b3 (by decide))]
  refine Ev.run (c' := (68, [.ref 27], [.int (gF (sF 11 ((gF (sF 8 (0 : Int32) w) 11) - (1 : Int32)) (sF 8 (0 : Int32) w)) 11), .ref 31, .int (gA (sF 11 ((gF (sF 8 (0 : Int32) w) 11) - (1 : Int32)) (sF 8 (0 : Int32) w)) 12 j3), .int (gA (sF 11 ((gF (sF 8 (0 : Int32) w) 11) - (1 : Int32)) (sF 8 (0 : Int32) w)) 11 j2), .ref 27], hp E (sF 11 ((gF (sF 8 (0 : Int32) w) 11) - (1 : Int32)) (sF 8 (0 : Int32) w)))) hM_110 4 rfl ?_
  rw [g4]
  refine Ev.iald hM_110 rfl (a := 31) rfl (inb_I b4 (by decide)) ?_
  rw [I_clamp (Nat.lt_of_lt_of_le b4 (by decide))]
  refine Ev.run (c' := (70, [.ref 27], [.int (1 : Int32), .int (gA (sF 11 ((gF (sF 8 (0 : Int32) w) 11) - (1 : Int32)) (sF 8 (0 : Int32) w)) 13 j4), .int (gA (sF 11 ((gF (sF 8 (0 : Int32) w) 11) - (1 : Int32)) (sF 8 (0 : Int32) w)) 12 j3), .int (gA (sF 11 ((gF (sF 8 (0 : Int32) w) 11) - (1 : Int32)) (sF 8 (0 : Int32) w)) 11 j2), .ref 27], hp E (sF 11 ((gF (sF 8 (0 : Int32) w) 11) - (1 : Int32)) (sF 8 (0 : Int32) w)))) hM_110 1 rfl ?_
  refine Ev.icT hM_110 rfl (cI_neT c3) ?_
  refine Ev.run (c' := (78, [.ref 27], [.int (0 : Int32), .int (gA (sF 11 ((gF (sF 8 (0 : Int32) w) 11) - (1 : Int32)) (sF 8 (0 : Int32) w)) 12 j3), .int (gA (sF 11 ((gF (sF 8 (0 : Int32) w) 11) - (1 : Int32)) (sF 8 (0 : Int32) w)) 11 j2), .ref 27], hp E (sF 11 ((gF (sF 8 (0 : Int32) w) 11) - (1 : Int32)) (sF 8 (0 : Int32) w)))) hM_110 1 rfl ?_
  rw [← a1] at h1
  rw [← a2] at h1
  refine Ev.callR hd hM_110 rfl (y := 104) (as := [.ref 27, .int (gA (sF 11 ((gF (sF 8 (0 : Int32) w) 11) - (1 : Int32)) (sF 8 (0 : Int32) w)) 11 j2), .int (gA (sF 11 ((gF (sF 8 (0 : Int32) w) 11) - (1 : Int32)) (sF 8 (0 : Int32) w)) 12 j3), .int (0 : Int32)]) (rest := []) rfl (Nat.le_of_ble_eq_true rfl) h1 ?_
  refine Ev.run (c' := (90, [.ref 27], [.int (gF w1 11), .ref 32, .ref 27], hp E w1)) hM_110 5 rfl ?_
  rw [g5]
  refine Ev.iald hM_110 rfl (a := 32) rfl (inb_I b5 (by decide)) ?_
  rw [I_clamp (Nat.lt_of_lt_of_le b5 (by decide))]
  refine Ev.run (c' := (98, [.ref 27], [.int (gF (sF 10 (gA w1 14 j5) w1) 11)], hp E (sF 10 (gA w1 14 j5) w1))) hM_110 3 rfl ?_
  exact Ev.fin hM_110 rfl rfl
theorem p110_e_d {E : Nat × (Nat → Int32)} {w : Wd} {d : Nat} {j1 : Nat} {j2 : Nat} {y : Int32} {w' : Wd} (c1 : ¬ (gF (sF 8 (0 : Int32) w) 11) = 0) (g1 : (gF (sF 11 ((gF (sF 8 (0 : Int32) w) 11) - (1 : Int32)) (sF 8 (0 : Int32) w)) 11) = I j1) (b1 : j1 < 200) (c2 : (gA (sF 11 ((gF (sF 8 (0 : Int32) w) 11) - (1 : Int32)) (sF 8 (0 : Int32) w)) 11 j1) = (-1 : Int32)) (g2 : (gF (sF 11 ((gF (sF 8 (0 : Int32) w) 11) - (1 : Int32)) (sF 8 (0 : Int32) w)) 11) = I j2) (b2 : j2 < 200) (q : (gF (sF 10 (gA (sF 11 ((gF (sF 8 (0 : Int32) w) 11) - (1 : Int32)) (sF 8 (0 : Int32) w)) 14 j2) (sF 11 ((gF (sF 8 (0 : Int32) w) 11) - (1 : Int32)) (sF 8 (0 : Int32) w))) 11) = y) (qw : (sF 10 (gA (sF 11 ((gF (sF 8 (0 : Int32) w) 11) - (1 : Int32)) (sF 8 (0 : Int32) w)) 14 j2) (sF 11 ((gF (sF 8 (0 : Int32) w) 11) - (1 : Int32)) (sF 8 (0 : Int32) w))) = w') : Ev d 110 (ent0 110 [.ref 27] (hp E w)) (.inl (some (.int y)), hp E w') := by
  subst qw
  subst q
  refine Ev.run (c' := (9, [.ref 27], [.int (gF (sF 8 (0 : Int32) w) 11)], hp E (sF 8 (0 : Int32) w))) hM_110 5 rfl ?_
  refine Ev.ifT hM_110 rfl (cI_neT c1) ?_
  refine Ev.run (c' := (36, [.ref 27], [.int (gF (sF 11 ((gF (sF 8 (0 : Int32) w) 11) - (1 : Int32)) (sF 8 (0 : Int32) w)) 11), .ref 29], hp E (sF 11 ((gF (sF 8 (0 : Int32) w) 11) - (1 : Int32)) (sF 8 (0 : Int32) w)))) hM_110 10 rfl ?_
  rw [g1]
  refine Ev.iald hM_110 rfl (a := 29) rfl (inb_I b1 (by decide)) ?_
  rw [I_clamp (Nat.lt_of_lt_of_le b1 (by decide))]
  refine Ev.run (c' := (38, [.ref 27], [.int (-1 : Int32), .int (gA (sF 11 ((gF (sF 8 (0 : Int32) w) 11) - (1 : Int32)) (sF 8 (0 : Int32) w)) 11 j1)], hp E (sF 11 ((gF (sF 8 (0 : Int32) w) 11) - (1 : Int32)) (sF 8 (0 : Int32) w)))) hM_110 1 rfl ?_
  refine Ev.icT hM_110 rfl (cI_eqT c2) ?_
  refine Ev.run (c' := (90, [.ref 27], [.int (gF (sF 11 ((gF (sF 8 (0 : Int32) w) 11) - (1 : Int32)) (sF 8 (0 : Int32) w)) 11), .ref 32, .ref 27], hp E (sF 11 ((gF (sF 8 (0 : Int32) w) 11) - (1 : Int32)) (sF 8 (0 : Int32) w)))) hM_110 5 rfl ?_
  rw [g2]
  refine Ev.iald hM_110 rfl (a := 32) rfl (inb_I b2 (by decide)) ?_
  rw [I_clamp (Nat.lt_of_lt_of_le b2 (by decide))]
  refine Ev.run (c' := (98, [.ref 27], [.int (gF (sF 10 (gA (sF 11 ((gF (sF 8 (0 : Int32) w) 11) - (1 : Int32)) (sF 8 (0 : Int32) w)) 14 j2) (sF 11 ((gF (sF 8 (0 : Int32) w) 11) - (1 : Int32)) (sF 8 (0 : Int32) w))) 11)], hp E (sF 10 (gA (sF 11 ((gF (sF 8 (0 : Int32) w) 11) - (1 : Int32)) (sF 8 (0 : Int32) w)) 14 j2) (sF 11 ((gF (sF 8 (0 : Int32) w) 11) - (1 : Int32)) (sF 8 (0 : Int32) w))))) hM_110 3 rfl ?_
  exact Ev.fin hM_110 rfl rfl
theorem hM_111 : mAt 111 = some km_X8_doors := rfl
theorem p111_e_a {E : Nat × (Nat → Int32)} {w : Wd} {d : Nat} {w1 : Wd} {v1 : Int32} (hd : 1 ≤ d) (h1 : Ev (d - 1) 103 (ent0 103 [.ref 27] (hp E (sF 8 (0 : Int32) w))) (.inl (some (.int v1)), hp E w1)) : Ev d 111 (ent0 111 [.ref 27] (hp E w)) (.inl (some (.int v1)), hp E w1) := by
  refine Ev.run (c' := (6, [.ref 27], [.ref 27], hp E (sF 8 (0 : Int32) w))) hM_111 4 rfl ?_
  refine Ev.callR hd hM_111 rfl (y := 103) (as := [.ref 27]) (rest := []) rfl (Nat.le_of_ble_eq_true rfl) h1 ?_
  refine Ev.run (c' := (9, [.ref 27], [.int v1], hp E w1)) hM_111 0 rfl ?_
  exact Ev.fin hM_111 rfl rfl
theorem hM_112 : mAt 112 = some km_X8_next := rfl
theorem p112_e_a {E : Nat × (Nat → Int32)} {w : Wd} {d : Nat} {x1 : Int32} {w1 : Wd} {v1 : Int32} {j1 : Nat} {y : Int32} (hd : 1 ≤ d) (h1 : Ev (d - 1) 98 (ent0 98 [.ref 27, .int x1] (hp E (sF 8 (0 : Int32) w))) (.inl (some (.int v1)), hp E w1)) (c1 : ¬ v1 = 0) (g1 : x1 = I j1) (b1 : j1 < 9) (q : (gA w1 10 j1) = y) : Ev d 112 (ent0 112 [.ref 27, .int x1] (hp E w)) (.inl (some (.int y)), hp E w1) := by
  subst q
  refine Ev.run (c' := (7, [.ref 27, .int x1], [.int x1, .ref 27], hp E (sF 8 (0 : Int32) w))) hM_112 5 rfl ?_
  refine Ev.callR hd hM_112 rfl (y := 98) (as := [.ref 27, .int x1]) (rest := []) rfl (Nat.le_of_ble_eq_true rfl) h1 ?_
  refine Ev.run (c' := (10, [.ref 27, .int x1], [.int v1], hp E w1)) hM_112 0 rfl ?_
  refine Ev.ifF hM_112 rfl (cI_eqF c1) ?_
  refine Ev.run (c' := (18, [.ref 27, .int x1], [.int x1, .ref 28], hp E w1)) hM_112 3 rfl ?_
  subst g1
  refine Ev.iald hM_112 rfl (a := 28) rfl (inb_I b1 (by decide)) ?_
  rw [I_clamp (Nat.lt_of_lt_of_le b1 (by decide))]
  refine Ev.run (c' := (27, [.ref 27, .int (I j1)], [.int (gA w1 10 j1)], hp E w1)) hM_112 1 rfl ?_
  exact Ev.fin hM_112 rfl rfl
theorem p112_e_b {E : Nat × (Nat → Int32)} {w : Wd} {d : Nat} {x1 : Int32} {w1 : Wd} {v1 : Int32} {w2 : Wd} {v2 : Int32} (hd : 1 ≤ d) (h1 : Ev (d - 1) 98 (ent0 98 [.ref 27, .int x1] (hp E (sF 8 (0 : Int32) w))) (.inl (some (.int v1)), hp E w1)) (c1 : v1 = 0) (h2 : Ev (d - 1) 97 (ent0 97 [.ref 27, .int (1 : Int32)] (hp E w1)) (.inl (some (.int v2)), hp E w2)) : Ev d 112 (ent0 112 [.ref 27, .int x1] (hp E w)) (.inl (some (.int v2)), hp E w2) := by
  refine Ev.run (c' := (7, [.ref 27, .int x1], [.int x1, .ref 27], hp E (sF 8 (0 : Int32) w))) hM_112 5 rfl ?_
  refine Ev.callR hd hM_112 rfl (y := 98) (as := [.ref 27, .int x1]) (rest := []) rfl (Nat.le_of_ble_eq_true rfl) h1 ?_
  refine Ev.run (c' := (10, [.ref 27, .int x1], [.int v1], hp E w1)) hM_112 0 rfl ?_
  refine Ev.ifT hM_112 rfl (cI_eqT c1) ?_
  refine Ev.run (c' := (24, [.ref 27, .int x1], [.int (1 : Int32), .ref 27], hp E w1)) hM_112 2 rfl ?_
  refine Ev.callR hd hM_112 rfl (y := 97) (as := [.ref 27, .int (1 : Int32)]) (rest := []) rfl (Nat.le_of_ble_eq_true rfl) h2 ?_
  refine Ev.run (c' := (27, [.ref 27, .int x1], [.int v2], hp E w2)) hM_112 0 rfl ?_
  exact Ev.fin hM_112 rfl rfl
theorem hM_114 : mAt 114 = some km_X8_isNear := rfl
theorem p114_e_a {E : Nat × (Nat → Int32)} {w : Wd} {d : Nat} {x1 x2 : Int32} {j1 : Nat} (c1 : ¬ x1 = x2) (g1 : x1 = I j1) (b1 : j1 < 9) (c2 : (((gA w 10 j1) >>> (x2 &&& 31)) &&& (1 : Int32)) = (1 : Int32)) : Ev d 114 (ent0 114 [.ref 27, .int x1, .int x2] (hp E w)) (.inl (some (.int (1 : Int32))), hp E w) := by
  refine Ev.run (c' := (2, [.ref 27, .int x1, .int x2], [.int x2, .int x1], hp E w)) hM_114 2 rfl ?_
  refine Ev.icF hM_114 rfl (cI_eqF c1) ?_
  refine Ev.run (c' := (10, [.ref 27, .int x1, .int x2], [.int x1, .ref 28], hp E w)) hM_114 3 rfl ?_
  subst g1
  refine Ev.iald hM_114 rfl (a := 28) rfl (inb_I b1 (by decide)) ?_
  rw [I_clamp (Nat.lt_of_lt_of_le b1 (by decide))]
  refine Ev.run (c' := (16, [.ref 27, .int (I j1), .int x2], [.int (1 : Int32), .int (((gA w 10 j1) >>> (x2 &&& 31)) &&& (1 : Int32))], hp E w)) hM_114 5 rfl ?_
  refine Ev.icF hM_114 rfl (cI_neF c2) ?_
  refine Ev.run (c' := (24, [.ref 27, .int (I j1), .int x2], [.int (1 : Int32)], hp E w)) hM_114 2 rfl ?_
  exact Ev.fin hM_114 rfl rfl
theorem p114_e_b {E : Nat × (Nat → Int32)} {w : Wd} {d : Nat} {x1 x2 : Int32} {j1 : Nat} (c1 : ¬ x1 = x2) (g1 : x1 = I j1) (b1 : j1 < 9) (c2 : ¬ (((gA w 10 j1) >>> (x2 &&& 31)) &&& (1 : Int32)) = (1 : Int32)) : Ev d 114 (ent0 114 [.ref 27, .int x1, .int x2] (hp E w)) (.inl (some (.int (0 : Int32))), hp E w) := by
  refine Ev.run (c' := (2, [.ref 27, .int x1, .int x2], [.int x2, .int x1], hp E w)) hM_114 2 rfl ?_
  refine Ev.icF hM_114 rfl (cI_eqF c1) ?_
  refine Ev.run (c' := (10, [.ref 27, .int x1, .int x2], [.int x1, .ref 28], hp E w)) hM_114 3 rfl ?_
  subst g1
  refine Ev.iald hM_114 rfl (a := 28) rfl (inb_I b1 (by decide)) ?_
  rw [I_clamp (Nat.lt_of_lt_of_le b1 (by decide))]
  refine Ev.run (c' := (16, [.ref 27, .int (I j1), .int x2], [.int (1 : Int32), .int (((gA w 10 j1) >>> (x2 &&& 31)) &&& (1 : Int32))], hp E w)) hM_114 5 rfl ?_
  refine Ev.icT hM_114 rfl (cI_neT c2) ?_
  refine Ev.run (c' := (24, [.ref 27, .int (I j1), .int x2], [.int (0 : Int32)], hp E w)) hM_114 1 rfl ?_
  exact Ev.fin hM_114 rfl rfl
theorem p114_e_c {E : Nat × (Nat → Int32)} {w : Wd} {d : Nat} {x1 x2 : Int32}  (c1 : x1 = x2) : Ev d 114 (ent0 114 [.ref 27, .int x1, .int x2] (hp E w)) (.inl (some (.int (1 : Int32))), hp E w) := by
  refine Ev.run (c' := (2, [.ref 27, .int x1, .int x2], [.int x2, .int x1], hp E w)) hM_114 2 rfl ?_
  refine Ev.icT hM_114 rfl (cI_eqT c1) ?_
  refine Ev.run (c' := (24, [.ref 27, .int x1, .int x2], [.int (1 : Int32)], hp E w)) hM_114 2 rfl ?_
  exact Ev.fin hM_114 rfl rfl
theorem hM_115 : mAt 115 = some km_X8_goes := rfl
theorem p115_e_a {E : Nat × (Nat → Int32)} {w : Wd} {d : Nat} {x1 x2 : Int32}  (c1 : x1 = (9 : Int32)) (c2 : x2 = (9 : Int32)) : Ev d 115 (ent0 115 [.ref 27, .int x1, .int x2] (hp E w)) (.inl (some (.int (1 : Int32))), hp E w) := by
  refine Ev.run (c' := (3, [.ref 27, .int x1, .int x2], [.int (9 : Int32), .int x1], hp E w)) hM_115 2 rfl ?_
  refine Ev.icF hM_115 rfl (cI_neF c1) ?_
  refine Ev.run (c' := (9, [.ref 27, .int x1, .int x2], [.int (9 : Int32), .int x2], hp E w)) hM_115 2 rfl ?_
  refine Ev.icF hM_115 rfl (cI_neF c2) ?_
  refine Ev.run (c' := (40, [.ref 27, .int x1, .int x2], [.int (1 : Int32)], hp E w)) hM_115 2 rfl ?_
  exact Ev.fin hM_115 rfl rfl
theorem p115_e_b {E : Nat × (Nat → Int32)} {w : Wd} {d : Nat} {x1 x2 : Int32}  (c1 : x1 = (9 : Int32)) (c2 : ¬ x2 = (9 : Int32)) : Ev d 115 (ent0 115 [.ref 27, .int x1, .int x2] (hp E w)) (.inl (some (.int (0 : Int32))), hp E w) := by
  refine Ev.run (c' := (3, [.ref 27, .int x1, .int x2], [.int (9 : Int32), .int x1], hp E w)) hM_115 2 rfl ?_
  refine Ev.icF hM_115 rfl (cI_neF c1) ?_
  refine Ev.run (c' := (9, [.ref 27, .int x1, .int x2], [.int (9 : Int32), .int x2], hp E w)) hM_115 2 rfl ?_
  refine Ev.icT hM_115 rfl (cI_neT c2) ?_
  refine Ev.run (c' := (40, [.ref 27, .int x1, .int x2], [.int (0 : Int32)], hp E w)) hM_115 2 rfl ?_
  exact Ev.fin hM_115 rfl rfl
theorem p115_e_c {E : Nat × (Nat → Int32)} {w : Wd} {d : Nat} {x1 x2 : Int32} {w1 : Wd} {v1 : Int32} (hd : 1 ≤ d) (c1 : ¬ x1 = (9 : Int32)) (c2 : x2 < (9 : Int32)) (h1 : Ev (d - 1) 114 (ent0 114 [.ref 27, .int x1, .int x2] (hp E w)) (.inl (some (.int v1)), hp E w1)) (c3 : ¬ v1 = 0) : Ev d 115 (ent0 115 [.ref 27, .int x1, .int x2] (hp E w)) (.inl (some (.int (1 : Int32))), hp E w1) := by
  refine Ev.run (c' := (3, [.ref 27, .int x1, .int x2], [.int (9 : Int32), .int x1], hp E w)) hM_115 2 rfl ?_
  refine Ev.icT hM_115 rfl (cI_neT c1) ?_
  refine Ev.run (c' := (23, [.ref 27, .int x1, .int x2], [.int (9 : Int32), .int x2], hp E w)) hM_115 2 rfl ?_
  refine Ev.icF hM_115 rfl (cI_geF c2) ?_
  refine Ev.run (c' := (29, [.ref 27, .int x1, .int x2], [.int x2, .int x1, .ref 27], hp E w)) hM_115 3 rfl ?_
  refine Ev.callR hd hM_115 rfl (y := 114) (as := [.ref 27, .int x1, .int x2]) (rest := []) rfl (Nat.le_of_ble_eq_true rfl) h1 ?_
  refine Ev.run (c' := (32, [.ref 27, .int x1, .int x2], [.int v1], hp E w1)) hM_115 0 rfl ?_
  refine Ev.ifF hM_115 rfl (cI_eqF c3) ?_
  refine Ev.run (c' := (40, [.ref 27, .int x1, .int x2], [.int (1 : Int32)], hp E w1)) hM_115 2 rfl ?_
  exact Ev.fin hM_115 rfl rfl
theorem p115_e_d {E : Nat × (Nat → Int32)} {w : Wd} {d : Nat} {x1 x2 : Int32} {w1 : Wd} {v1 : Int32} (hd : 1 ≤ d) (c1 : ¬ x1 = (9 : Int32)) (c2 : x2 < (9 : Int32)) (h1 : Ev (d - 1) 114 (ent0 114 [.ref 27, .int x1, .int x2] (hp E w)) (.inl (some (.int v1)), hp E w1)) (c3 : v1 = 0) : Ev d 115 (ent0 115 [.ref 27, .int x1, .int x2] (hp E w)) (.inl (some (.int (0 : Int32))), hp E w1) := by
  refine Ev.run (c' := (3, [.ref 27, .int x1, .int x2], [.int (9 : Int32), .int x1], hp E w)) hM_115 2 rfl ?_
  refine Ev.icT hM_115 rfl (cI_neT c1) ?_
  refine Ev.run (c' := (23, [.ref 27, .int x1, .int x2], [.int (9 : Int32), .int x2], hp E w)) hM_115 2 rfl ?_
  refine Ev.icF hM_115 rfl (cI_geF c2) ?_
  refine Ev.run (c' := (29, [.ref 27, .int x1, .int x2], [.int x2, .int x1, .ref 27], hp E w)) hM_115 3 rfl ?_
  refine Ev.callR hd hM_115 rfl (y := 114) (as := [.ref 27, .int x1, .int x2]) (rest := []) rfl (Nat.le_of_ble_eq_true rfl) h1 ?_
  refine Ev.run (c' := (32, [.ref 27, .int x1, .int x2], [.int v1], hp E w1)) hM_115 0 rfl ?_
  refine Ev.ifT hM_115 rfl (cI_eqT c3) ?_
  refine Ev.run (c' := (40, [.ref 27, .int x1, .int x2], [.int (0 : Int32)], hp E w1)) hM_115 1 rfl ?_
  exact Ev.fin hM_115 rfl rfl
theorem p115_e_e {E : Nat × (Nat → Int32)} {w : Wd} {d : Nat} {x1 x2 : Int32}  (c1 : ¬ x1 = (9 : Int32)) (c2 : ¬ x2 < (9 : Int32)) : Ev d 115 (ent0 115 [.ref 27, .int x1, .int x2] (hp E w)) (.inl (some (.int (0 : Int32))), hp E w) := by
  refine Ev.run (c' := (3, [.ref 27, .int x1, .int x2], [.int (9 : Int32), .int x1], hp E w)) hM_115 2 rfl ?_
  refine Ev.icT hM_115 rfl (cI_neT c1) ?_
  refine Ev.run (c' := (23, [.ref 27, .int x1, .int x2], [.int (9 : Int32), .int x2], hp E w)) hM_115 2 rfl ?_
  refine Ev.icT hM_115 rfl (cI_geT c2) ?_
  refine Ev.run (c' := (40, [.ref 27, .int x1, .int x2], [.int (0 : Int32)], hp E w)) hM_115 1 rfl ?_
  exact Ev.fin hM_115 rfl rfl
theorem hM_116 : mAt 116 = some km_X8_worst := rfl
theorem p116_e_a {E : Nat × (Nat → Int32)} {w : Wd} {d : Nat} {x1 x2 x3 : Int32} {o : Ou}  (e : Ev d 116 (6, [.ref 27, .int x1, .int x2, .int x3, .int (0 : Int32), .int (0 : Int32), jk], [], hp E w) o) : Ev d 116 (ent0 116 [.ref 27, .int x1, .int x2, .int x3] (hp E w)) o := by
  refine Ev.run (c' := (6, [.ref 27, .int x1, .int x2, .int x3, .int (0 : Int32), .int (0 : Int32), jk], [], hp E w)) hM_116 4 rfl ?_
  exact e
theorem p116_6_a {E : Nat × (Nat → Int32)} {w : Wd} {d : Nat} {x1 x2 x3 x4 x5 : Int32} {u6 : Value} {o : Ou} {w1 : Wd} {v1 : Int32} {j1 : Nat} {y4 : Int32} {y5 : Int32} (hd : 1 ≤ d) (c1 : x5 < (gF w 9)) (h1 : Ev (d - 1) 114 (ent0 114 [.ref 27, .int x3, .int x5] (hp E w)) (.inl (some (.int v1)), hp E w1)) (c2 : ¬ v1 = 0) (g1 : ((((x1 * (10 : Int32)) + x2) * (9 : Int32)) + x5) = I j1) (b1 : j1 < 810) (c3 : x4 < (gA w1 15 j1)) (q4 : (gA w1 15 j1) = y4) (q5 : (x5 + (1 : Int32)) = y5) (e : Ev d 116 (6, [.ref 27, .int x1, .int x2, .int x3, .int y4, .int y5, .int (gA w1 15 j1)], [], hp E w1) o) : Ev d 116 (6, [.ref 27, .int x1, .int x2, .int x3, .int x4, .int x5, u6], [], hp E w) o := by
  subst q5
  subst q4
  refine Ev.run (c' := (12, [.ref 27, .int x1, .int x2, .int x3, .int x4, .int x5, u6], [.int (gF w 9), .int x5], hp E w)) hM_116 3 rfl ?_
  refine Ev.icF hM_116 rfl (cI_geF c1) ?_
  refine Ev.run (c' := (19, [.ref 27, .int x1, .int x2, .int x3, .int x4, .int x5, u6], [.int x5, .int x3, .ref 27], hp E w)) hM_116 3 rfl ?_
  refine Ev.callR hd hM_116 rfl (y := 114) (as := [.ref 27, .int x3, .int x5]) (rest := []) rfl (Nat.le_of_ble_eq_true rfl) h1 ?_
  refine Ev.run (c' := (22, [.ref 27, .int x1, .int x2, .int x3, .int x4, .int x5, u6], [.int v1], hp E w1)) hM_116 0 rfl ?_
  refine Ev.ifF hM_116 rfl (cI_eqF c2) ?_
  refine Ev.run (c' := (33, [.ref 27, .int x1, .int x2, .int x3, .int x4, .int x5, u6], [.int x5, .int x2, .int x1, .ref 33], hp E w1)) hM_116 5 rfl ?_
  refine Ev.callR hd hM_116 rfl (y := 113) (as := [.int x1, .int x2, .int x5]) (rest := [.ref 33]) rfl (Nat.le_of_ble_eq_true rfl) (place_spec) ?_
  refine Ev.run (c' := (36, [.ref 27, .int x1, .int x2, .int x3, .int x4, .int x5, u6], [.int ((((x1 * (10 : Int32)) + x2) * (9 : Int32)) + x5), .ref 33], hp E w1)) hM_116 0 rfl ?_
  rw [g1]
  refine Ev.iald hM_116 rfl (a := 33) rfl (inb_I b1 (by decide)) ?_
  rw [I_clamp (Nat.lt_of_lt_of_le b1 (by decide))]
  refine Ev.run (c' := (43, [.ref 27, .int x1, .int x2, .int x3, .int x4, .int x5, .int (gA w1 15 j1)], [.int x4, .int (gA w1 15 j1)], hp E w1)) hM_116 3 rfl ?_
  refine Ev.icF hM_116 rfl (cI_leF c3) ?_
  refine Ev.run (c' := (6, [.ref 27, .int x1, .int x2, .int x3, .int (gA w1 15 j1), .int (x5 + (1 : Int32)), .int (gA w1 15 j1)], [], hp E w1)) hM_116 5 rfl ?_
  exact e
theorem p116_6_b {E : Nat × (Nat → Int32)} {w : Wd} {d : Nat} {x1 x2 x3 x4 x5 : Int32} {u6 : Value} {o : Ou} {w1 : Wd} {v1 : Int32} {j1 : Nat} {y5 : Int32} (hd : 1 ≤ d) (c1 : x5 < (gF w 9)) (h1 : Ev (d - 1) 114 (ent0 114 [.ref 27, .int x3, .int x5] (hp E w)) (.inl (some (.int v1)), hp E w1)) (c2 : ¬ v1 = 0) (g1 : ((((x1 * (10 : Int32)) + x2) * (9 : Int32)) + x5) = I j1) (b1 : j1 < 810) (c3 : ¬ x4 < (gA w1 15 j1)) (q5 : (x5 + (1 : Int32)) = y5) (e : Ev d 116 (6, [.ref 27, .int x1, .int x2, .int x3, .int x4, .int y5, .int (gA w1 15 j1)], [], hp E w1) o) : Ev d 116 (6, [.ref 27, .int x1, .int x2, .int x3, .int x4, .int x5, u6], [], hp E w) o := by
  subst q5
  refine Ev.run (c' := (12, [.ref 27, .int x1, .int x2, .int x3, .int x4, .int x5, u6], [.int (gF w 9), .int x5], hp E w)) hM_116 3 rfl ?_
  refine Ev.icF hM_116 rfl (cI_geF c1) ?_
  refine Ev.run (c' := (19, [.ref 27, .int x1, .int x2, .int x3, .int x4, .int x5, u6], [.int x5, .int x3, .ref 27], hp E w)) hM_116 3 rfl ?_
  refine Ev.callR hd hM_116 rfl (y := 114) (as := [.ref 27, .int x3, .int x5]) (rest := []) rfl (Nat.le_of_ble_eq_true rfl) h1 ?_
  refine Ev.run (c' := (22, [.ref 27, .int x1, .int x2, .int x3, .int x4, .int x5, u6], [.int v1], hp E w1)) hM_116 0 rfl ?_
  refine Ev.ifF hM_116 rfl (cI_eqF c2) ?_
  refine Ev.run (c' := (33, [.ref 27, .int x1, .int x2, .int x3, .int x4, .int x5, u6], [.int x5, .int x2, .int x1, .ref 33], hp E w1)) hM_116 5 rfl ?_
  refine Ev.callR hd hM_116 rfl (y := 113) (as := [.int x1, .int x2, .int x5]) (rest := [.ref 33]) rfl (Nat.le_of_ble_eq_true rfl) (place_spec) ?_
  refine Ev.run (c' := (36, [.ref 27, .int x1, .int x2, .int x3, .int x4, .int x5, u6], [.int ((((x1 * (10 : Int32)) + x2) * (9 : Int32)) + x5), .ref 33], hp E w1)) hM_116 0 rfl ?_
  rw [g1]
  refine Ev.iald hM_116 rfl (a := 33) rfl (inb_I b1 (by decide)) ?_
  rw [I_clamp (Nat.lt_of_lt_of_le b1 (by decide))]
  refine Ev.run (c' := (43, [.ref 27, .int x1, .int x2, .int x3, .int x4, .int x5, .int (gA w1 15 j1)], [.int x4, .int (gA w1 15 j1)], hp E w1)) hM_116 3 rfl ?_
  refine Ev.icT hM_116 rfl (cI_leT c3) ?_
  refine Ev.run (c' := (6, [.ref 27, .int x1, .int x2, .int x3, .int x4, .int (x5 + (1 : Int32)), .int (gA w1 15 j1)], [], hp E w1)) hM_116 4 rfl ?_
  exact e
theorem p116_6_c {E : Nat × (Nat → Int32)} {w : Wd} {d : Nat} {x1 x2 x3 x4 x5 : Int32} {u6 : Value} {o : Ou} {w1 : Wd} {v1 : Int32} {y5 : Int32} (hd : 1 ≤ d) (c1 : x5 < (gF w 9)) (h1 : Ev (d - 1) 114 (ent0 114 [.ref 27, .int x3, .int x5] (hp E w)) (.inl (some (.int v1)), hp E w1)) (c2 : v1 = 0) (q5 : (x5 + (1 : Int32)) = y5) (e : Ev d 116 (6, [.ref 27, .int x1, .int x2, .int x3, .int x4, .int y5, u6], [], hp E w1) o) : Ev d 116 (6, [.ref 27, .int x1, .int x2, .int x3, .int x4, .int x5, u6], [], hp E w) o := by
  subst q5
  refine Ev.run (c' := (12, [.ref 27, .int x1, .int x2, .int x3, .int x4, .int x5, u6], [.int (gF w 9), .int x5], hp E w)) hM_116 3 rfl ?_
  refine Ev.icF hM_116 rfl (cI_geF c1) ?_
  refine Ev.run (c' := (19, [.ref 27, .int x1, .int x2, .int x3, .int x4, .int x5, u6], [.int x5, .int x3, .ref 27], hp E w)) hM_116 3 rfl ?_
  refine Ev.callR hd hM_116 rfl (y := 114) (as := [.ref 27, .int x3, .int x5]) (rest := []) rfl (Nat.le_of_ble_eq_true rfl) h1 ?_
  refine Ev.run (c' := (22, [.ref 27, .int x1, .int x2, .int x3, .int x4, .int x5, u6], [.int v1], hp E w1)) hM_116 0 rfl ?_
  refine Ev.ifT hM_116 rfl (cI_eqT c2) ?_
  refine Ev.run (c' := (6, [.ref 27, .int x1, .int x2, .int x3, .int x4, .int (x5 + (1 : Int32)), u6], [], hp E w1)) hM_116 2 rfl ?_
  exact e
theorem p116_6_d {E : Nat × (Nat → Int32)} {w : Wd} {d : Nat} {x1 x2 x3 x4 x5 : Int32} {u6 : Value}  (c1 : ¬ x5 < (gF w 9)) : Ev d 116 (6, [.ref 27, .int x1, .int x2, .int x3, .int x4, .int x5, u6], [], hp E w) (.inl (some (.int x4)), hp E w) := by
  refine Ev.run (c' := (12, [.ref 27, .int x1, .int x2, .int x3, .int x4, .int x5, u6], [.int (gF w 9), .int x5], hp E w)) hM_116 3 rfl ?_
  refine Ev.icT hM_116 rfl (cI_geT c1) ?_
  refine Ev.run (c' := (63, [.ref 27, .int x1, .int x2, .int x3, .int x4, .int x5, u6], [.int x4], hp E w)) hM_116 1 rfl ?_
  exact Ev.fin hM_116 rfl rfl
theorem hM_117 : mAt 117 = some km_X8_least := rfl
theorem p117_e_a {E : Nat × (Nat → Int32)} {w : Wd} {d : Nat} {x1 x2 x3 : Int32} {o : Ou}  (e : Ev d 117 (7, [.ref 27, .int x1, .int x2, .int x3, .int (99 : Int32), .int (0 : Int32), jk, jk], [], hp E w) o) : Ev d 117 (ent0 117 [.ref 27, .int x1, .int x2, .int x3] (hp E w)) o := by
  refine Ev.run (c' := (7, [.ref 27, .int x1, .int x2, .int x3, .int (99 : Int32), .int (0 : Int32), jk, jk], [], hp E w)) hM_117 4 rfl ?_
  exact e
theorem p117_7_a {E : Nat × (Nat → Int32)} {w : Wd} {d : Nat} {x1 x2 x3 x4 x5 : Int32} {u6 u7 : Value} {o : Ou}  (c1 : x5 < (gF w 9)) (e : Ev d 117 (19, [.ref 27, .int x1, .int x2, .int x3, .int x4, .int x5, .int (0 : Int32), u7], [], hp E w) o) : Ev d 117 (7, [.ref 27, .int x1, .int x2, .int x3, .int x4, .int x5, u6, u7], [], hp E w) o := by
  refine Ev.run (c' := (13, [.ref 27, .int x1, .int x2, .int x3, .int x4, .int x5, u6, u7], [.int (gF w 9), .int x5], hp E w)) hM_117 3 rfl ?_
  refine Ev.icF hM_117 rfl (cI_geF c1) ?_
  refine Ev.run (c' := (19, [.ref 27, .int x1, .int x2, .int x3, .int x4, .int x5, .int (0 : Int32), u7], [], hp E w)) hM_117 2 rfl ?_
  exact e
theorem p117_7_b {E : Nat × (Nat → Int32)} {w : Wd} {d : Nat} {x1 x2 x3 x4 x5 : Int32} {u6 u7 : Value}  (c1 : ¬ x5 < (gF w 9)) : Ev d 117 (7, [.ref 27, .int x1, .int x2, .int x3, .int x4, .int x5, u6, u7], [], hp E w) (.inl (some (.int x4)), hp E w) := by
  refine Ev.run (c' := (13, [.ref 27, .int x1, .int x2, .int x3, .int x4, .int x5, u6, u7], [.int (gF w 9), .int x5], hp E w)) hM_117 3 rfl ?_
  refine Ev.icT hM_117 rfl (cI_geT c1) ?_
  refine Ev.run (c' := (107, [.ref 27, .int x1, .int x2, .int x3, .int x4, .int x5, u6, u7], [.int x4], hp E w)) hM_117 1 rfl ?_
  exact Ev.fin hM_117 rfl rfl
theorem p117_19_a {E : Nat × (Nat → Int32)} {w : Wd} {d : Nat} {x1 x2 x3 x4 x5 x6 : Int32} {u7 : Value} {o : Ou} {w1 : Wd} {v1 : Int32} {w2 : Wd} {v2 : Int32} {j1 : Nat} {y4 : Int32} {y6 : Int32} (hd : 1 ≤ d) (c1 : ¬ (9 : Int32) < x6) (h1 : Ev (d - 1) 114 (ent0 114 [.ref 27, .int x1, .int x5] (hp E w)) (.inl (some (.int v1)), hp E w1)) (c2 : ¬ v1 = 0) (c3 : ¬ x6 < (gF w1 9)) (c4 : x6 = (9 : Int32)) (h2 : Ev (d - 1) 115 (ent0 115 [.ref 27, .int x2, .int x6] (hp E w1)) (.inl (some (.int v2)), hp E w2)) (c5 : ¬ v2 = 0) (g1 : ((((x5 * (10 : Int32)) + x6) * (9 : Int32)) + x3) = I j1) (b1 : j1 < 810) (c6 : (gA w2 16 j1) < x4) (q4 : (gA w2 16 j1) = y4) (q6 : (x6 + (1 : Int32)) = y6) (e : Ev d 117 (19, [.ref 27, .int x1, .int x2, .int x3, .int y4, .int x5, .int y6, .int (gA w2 16 j1)], [], hp E w2) o) : Ev d 117 (19, [.ref 27, .int x1, .int x2, .int x3, .int x4, .int x5, .int x6, u7], [], hp E w) o := by
  subst q6
  subst q4
  refine Ev.run (c' := (23, [.ref 27, .int x1, .int x2, .int x3, .int x4, .int x5, .int x6, u7], [.int (9 : Int32), .int x6], hp E w)) hM_117 2 rfl ?_
  refine Ev.icF hM_117 rfl (cI_gtF c1) ?_
  refine Ev.run (c' := (30, [.ref 27, .int x1, .int x2, .int x3, .int x4, .int x5, .int x6, u7], [.int x5, .int x1, .ref 27], hp E w)) hM_117 3 rfl ?_
  refine Ev.callR hd hM_117 rfl (y := 114) (as := [.ref 27, .int x1, .int x5]) (rest := []) rfl (Nat.le_of_ble_eq_true rfl) h1 ?_
  refine Ev.run (c' := (33, [.ref 27, .int x1, .int x2, .int x3, .int x4, .int x5, .int x6, u7], [.int v1], hp E w1)) hM_117 0 rfl ?_
  refine Ev.ifF hM_117 rfl (cI_eqF c2) ?_
  refine Ev.run (c' := (42, [.ref 27, .int x1, .int x2, .int x3, .int x4, .int x5, .int x6, u7], [.int (gF w1 9), .int x6], hp E w1)) hM_117 3 rfl ?_
  refine Ev.icF hM_117 rfl (cI_ltF c3) ?_
  refine Ev.run (c' := (49, [.ref 27, .int x1, .int x2, .int x3, .int x4, .int x5, .int x6, u7], [.int (9 : Int32), .int x6], hp E w1)) hM_117 2 rfl ?_
  refine Ev.icF hM_117 rfl (cI_neF c4) ?_
  refine Ev.run (c' := (56, [.ref 27, .int x1, .int x2, .int x3, .int x4, .int x5, .int x6, u7], [.int x6, .int x2, .ref 27], hp E w1)) hM_117 3 rfl ?_
  refine Ev.callR hd hM_117 rfl (y := 115) (as := [.ref 27, .int x2, .int x6]) (rest := []) rfl (Nat.le_of_ble_eq_true rfl) h2 ?_
  refine Ev.run (c' := (59, [.ref 27, .int x1, .int x2, .int x3, .int x4, .int x5, .int x6, u7], [.int v2], hp E w2)) hM_117 0 rfl ?_
  refine Ev.ifF hM_117 rfl (cI_eqF c5) ?_
  refine Ev.run (c' := (71, [.ref 27, .int x1, .int x2, .int x3, .int x4, .int x5, .int x6, u7], [.int x3, .int x6, .int x5, .ref 34], hp E w2)) hM_117 5 rfl ?_
  refine Ev.callR hd hM_117 rfl (y := 113) (as := [.int x5, .int x6, .int x3]) (rest := [.ref 34]) rfl (Nat.le_of_ble_eq_true rfl) (place_spec) ?_
  refine Ev.run (c' := (74, [.ref 27, .int x1, .int x2, .int x3, .int x4, .int x5, .int x6, u7], [.int ((((x5 * (10 : Int32)) + x6) * (9 : Int32)) + x3), .ref 34], hp E w2)) hM_117 0 rfl ?_
  rw [g1]
  refine Ev.iald hM_117 rfl (a := 34) rfl (inb_I b1 (by decide)) ?_
  rw [I_clamp (Nat.lt_of_lt_of_le b1 (by decide))]
  refine Ev.run (c' := (81, [.ref 27, .int x1, .int x2, .int x3, .int x4, .int x5, .int x6, .int (gA w2 16 j1)], [.int x4, .int (gA w2 16 j1)], hp E w2)) hM_117 3 rfl ?_
  refine Ev.icF hM_117 rfl (cI_geF c6) ?_
  refine Ev.run (c' := (19, [.ref 27, .int x1, .int x2, .int x3, .int (gA w2 16 j1), .int x5, .int (x6 + (1 : Int32)), .int (gA w2 16 j1)], [], hp E w2)) hM_117 5 rfl ?_
  exact e
theorem p117_19_b {E : Nat × (Nat → Int32)} {w : Wd} {d : Nat} {x1 x2 x3 x4 x5 x6 : Int32} {u7 : Value} {o : Ou} {w1 : Wd} {v1 : Int32} {w2 : Wd} {v2 : Int32} {j1 : Nat} {y6 : Int32} (hd : 1 ≤ d) (c1 : ¬ (9 : Int32) < x6) (h1 : Ev (d - 1) 114 (ent0 114 [.ref 27, .int x1, .int x5] (hp E w)) (.inl (some (.int v1)), hp E w1)) (c2 : ¬ v1 = 0) (c3 : ¬ x6 < (gF w1 9)) (c4 : x6 = (9 : Int32)) (h2 : Ev (d - 1) 115 (ent0 115 [.ref 27, .int x2, .int x6] (hp E w1)) (.inl (some (.int v2)), hp E w2)) (c5 : ¬ v2 = 0) (g1 : ((((x5 * (10 : Int32)) + x6) * (9 : Int32)) + x3) = I j1) (b1 : j1 < 810) (c6 : ¬ (gA w2 16 j1) < x4) (q6 : (x6 + (1 : Int32)) = y6) (e : Ev d 117 (19, [.ref 27, .int x1, .int x2, .int x3, .int x4, .int x5, .int y6, .int (gA w2 16 j1)], [], hp E w2) o) : Ev d 117 (19, [.ref 27, .int x1, .int x2, .int x3, .int x4, .int x5, .int x6, u7], [], hp E w) o := by
  subst q6
  refine Ev.run (c' := (23, [.ref 27, .int x1, .int x2, .int x3, .int x4, .int x5, .int x6, u7], [.int (9 : Int32), .int x6], hp E w)) hM_117 2 rfl ?_
  refine Ev.icF hM_117 rfl (cI_gtF c1) ?_
  refine Ev.run (c' := (30, [.ref 27, .int x1, .int x2, .int x3, .int x4, .int x5, .int x6, u7], [.int x5, .int x1, .ref 27], hp E w)) hM_117 3 rfl ?_
  refine Ev.callR hd hM_117 rfl (y := 114) (as := [.ref 27, .int x1, .int x5]) (rest := []) rfl (Nat.le_of_ble_eq_true rfl) h1 ?_
  refine Ev.run (c' := (33, [.ref 27, .int x1, .int x2, .int x3, .int x4, .int x5, .int x6, u7], [.int v1], hp E w1)) hM_117 0 rfl ?_
  refine Ev.ifF hM_117 rfl (cI_eqF c2) ?_
  refine Ev.run (c' := (42, [.ref 27, .int x1, .int x2, .int x3, .int x4, .int x5, .int x6, u7], [.int (gF w1 9), .int x6], hp E w1)) hM_117 3 rfl ?_
  refine Ev.icF hM_117 rfl (cI_ltF c3) ?_
  refine Ev.run (c' := (49, [.ref 27, .int x1, .int x2, .int x3, .int x4, .int x5, .int x6, u7], [.int (9 : Int32), .int x6], hp E w1)) hM_117 2 rfl ?_
  refine Ev.icF hM_117 rfl (cI_neF c4) ?_
  refine Ev.run (c' := (56, [.ref 27, .int x1, .int x2, .int x3, .int x4, .int x5, .int x6, u7], [.int x6, .int x2, .ref 27], hp E w1)) hM_117 3 rfl ?_
  refine Ev.callR hd hM_117 rfl (y := 115) (as := [.ref 27, .int x2, .int x6]) (rest := []) rfl (Nat.le_of_ble_eq_true rfl) h2 ?_
  refine Ev.run (c' := (59, [.ref 27, .int x1, .int x2, .int x3, .int x4, .int x5, .int x6, u7], [.int v2], hp E w2)) hM_117 0 rfl ?_
  refine Ev.ifF hM_117 rfl (cI_eqF c5) ?_
  refine Ev.run (c' := (71, [.ref 27, .int x1, .int x2, .int x3, .int x4, .int x5, .int x6, u7], [.int x3, .int x6, .int x5, .ref 34], hp E w2)) hM_117 5 rfl ?_
  refine Ev.callR hd hM_117 rfl (y := 113) (as := [.int x5, .int x6, .int x3]) (rest := [.ref 34]) rfl (Nat.le_of_ble_eq_true rfl) (place_spec) ?_
  refine Ev.run (c' := (74, [.ref 27, .int x1, .int x2, .int x3, .int x4, .int x5, .int x6, u7], [.int ((((x5 * (10 : Int32)) + x6) * (9 : Int32)) + x3), .ref 34], hp E w2)) hM_117 0 rfl ?_
  rw [g1]
  refine Ev.iald hM_117 rfl (a := 34) rfl (inb_I b1 (by decide)) ?_
  rw [I_clamp (Nat.lt_of_lt_of_le b1 (by decide))]
  refine Ev.run (c' := (81, [.ref 27, .int x1, .int x2, .int x3, .int x4, .int x5, .int x6, .int (gA w2 16 j1)], [.int x4, .int (gA w2 16 j1)], hp E w2)) hM_117 3 rfl ?_
  refine Ev.icT hM_117 rfl (cI_geT c6) ?_
  refine Ev.run (c' := (19, [.ref 27, .int x1, .int x2, .int x3, .int x4, .int x5, .int (x6 + (1 : Int32)), .int (gA w2 16 j1)], [], hp E w2)) hM_117 4 rfl ?_
  exact e
theorem p117_19_c {E : Nat × (Nat → Int32)} {w : Wd} {d : Nat} {x1 x2 x3 x4 x5 x6 : Int32} {u7 : Value} {o : Ou} {w1 : Wd} {v1 : Int32} {w2 : Wd} {v2 : Int32} {y6 : Int32} (hd : 1 ≤ d) (c1 : ¬ (9 : Int32) < x6) (h1 : Ev (d - 1) 114 (ent0 114 [.ref 27, .int x1, .int x5] (hp E w)) (.inl (some (.int v1)), hp E w1)) (c2 : ¬ v1 = 0) (c3 : ¬ x6 < (gF w1 9)) (c4 : x6 = (9 : Int32)) (h2 : Ev (d - 1) 115 (ent0 115 [.ref 27, .int x2, .int x6] (hp E w1)) (.inl (some (.int v2)), hp E w2)) (c5 : v2 = 0) (q6 : (x6 + (1 : Int32)) = y6) (e : Ev d 117 (19, [.ref 27, .int x1, .int x2, .int x3, .int x4, .int x5, .int y6, u7], [], hp E w2) o) : Ev d 117 (19, [.ref 27, .int x1, .int x2, .int x3, .int x4, .int x5, .int x6, u7], [], hp E w) o := by
  subst q6
  refine Ev.run (c' := (23, [.ref 27, .int x1, .int x2, .int x3, .int x4, .int x5, .int x6, u7], [.int (9 : Int32), .int x6], hp E w)) hM_117 2 rfl ?_
  refine Ev.icF hM_117 rfl (cI_gtF c1) ?_
  refine Ev.run (c' := (30, [.ref 27, .int x1, .int x2, .int x3, .int x4, .int x5, .int x6, u7], [.int x5, .int x1, .ref 27], hp E w)) hM_117 3 rfl ?_
  refine Ev.callR hd hM_117 rfl (y := 114) (as := [.ref 27, .int x1, .int x5]) (rest := []) rfl (Nat.le_of_ble_eq_true rfl) h1 ?_
  refine Ev.run (c' := (33, [.ref 27, .int x1, .int x2, .int x3, .int x4, .int x5, .int x6, u7], [.int v1], hp E w1)) hM_117 0 rfl ?_
  refine Ev.ifF hM_117 rfl (cI_eqF c2) ?_
  refine Ev.run (c' := (42, [.ref 27, .int x1, .int x2, .int x3, .int x4, .int x5, .int x6, u7], [.int (gF w1 9), .int x6], hp E w1)) hM_117 3 rfl ?_
  refine Ev.icF hM_117 rfl (cI_ltF c3) ?_
  refine Ev.run (c' := (49, [.ref 27, .int x1, .int x2, .int x3, .int x4, .int x5, .int x6, u7], [.int (9 : Int32), .int x6], hp E w1)) hM_117 2 rfl ?_
  refine Ev.icF hM_117 rfl (cI_neF c4) ?_
  refine Ev.run (c' := (56, [.ref 27, .int x1, .int x2, .int x3, .int x4, .int x5, .int x6, u7], [.int x6, .int x2, .ref 27], hp E w1)) hM_117 3 rfl ?_
  refine Ev.callR hd hM_117 rfl (y := 115) (as := [.ref 27, .int x2, .int x6]) (rest := []) rfl (Nat.le_of_ble_eq_true rfl) h2 ?_
  refine Ev.run (c' := (59, [.ref 27, .int x1, .int x2, .int x3, .int x4, .int x5, .int x6, u7], [.int v2], hp E w2)) hM_117 0 rfl ?_
  refine Ev.ifT hM_117 rfl (cI_eqT c5) ?_
  refine Ev.run (c' := (19, [.ref 27, .int x1, .int x2, .int x3, .int x4, .int x5, .int (x6 + (1 : Int32)), u7], [], hp E w2)) hM_117 2 rfl ?_
  exact e
theorem p117_19_d {E : Nat × (Nat → Int32)} {w : Wd} {d : Nat} {x1 x2 x3 x4 x5 x6 : Int32} {u7 : Value} {o : Ou} {w1 : Wd} {v1 : Int32} {y6 : Int32} (hd : 1 ≤ d) (c1 : ¬ (9 : Int32) < x6) (h1 : Ev (d - 1) 114 (ent0 114 [.ref 27, .int x1, .int x5] (hp E w)) (.inl (some (.int v1)), hp E w1)) (c2 : ¬ v1 = 0) (c3 : ¬ x6 < (gF w1 9)) (c4 : ¬ x6 = (9 : Int32)) (q6 : (x6 + (1 : Int32)) = y6) (e : Ev d 117 (19, [.ref 27, .int x1, .int x2, .int x3, .int x4, .int x5, .int y6, u7], [], hp E w1) o) : Ev d 117 (19, [.ref 27, .int x1, .int x2, .int x3, .int x4, .int x5, .int x6, u7], [], hp E w) o := by
  subst q6
  refine Ev.run (c' := (23, [.ref 27, .int x1, .int x2, .int x3, .int x4, .int x5, .int x6, u7], [.int (9 : Int32), .int x6], hp E w)) hM_117 2 rfl ?_
  refine Ev.icF hM_117 rfl (cI_gtF c1) ?_
  refine Ev.run (c' := (30, [.ref 27, .int x1, .int x2, .int x3, .int x4, .int x5, .int x6, u7], [.int x5, .int x1, .ref 27], hp E w)) hM_117 3 rfl ?_
  refine Ev.callR hd hM_117 rfl (y := 114) (as := [.ref 27, .int x1, .int x5]) (rest := []) rfl (Nat.le_of_ble_eq_true rfl) h1 ?_
  refine Ev.run (c' := (33, [.ref 27, .int x1, .int x2, .int x3, .int x4, .int x5, .int x6, u7], [.int v1], hp E w1)) hM_117 0 rfl ?_
  refine Ev.ifF hM_117 rfl (cI_eqF c2) ?_
  refine Ev.run (c' := (42, [.ref 27, .int x1, .int x2, .int x3, .int x4, .int x5, .int x6, u7], [.int (gF w1 9), .int x6], hp E w1)) hM_117 3 rfl ?_
  refine Ev.icF hM_117 rfl (cI_ltF c3) ?_
  refine Ev.run (c' := (49, [.ref 27, .int x1, .int x2, .int x3, .int x4, .int x5, .int x6, u7], [.int (9 : Int32), .int x6], hp E w1)) hM_117 2 rfl ?_
  refine Ev.icT hM_117 rfl (cI_neT c4) ?_
  refine Ev.run (c' := (19, [.ref 27, .int x1, .int x2, .int x3, .int x4, .int x5, .int (x6 + (1 : Int32)), u7], [], hp E w1)) hM_117 2 rfl ?_
  exact e
theorem p117_19_e {E : Nat × (Nat → Int32)} {w : Wd} {d : Nat} {x1 x2 x3 x4 x5 x6 : Int32} {u7 : Value} {o : Ou} {w1 : Wd} {v1 : Int32} {w2 : Wd} {v2 : Int32} {j1 : Nat} {y4 : Int32} {y6 : Int32} (hd : 1 ≤ d) (c1 : ¬ (9 : Int32) < x6) (h1 : Ev (d - 1) 114 (ent0 114 [.ref 27, .int x1, .int x5] (hp E w)) (.inl (some (.int v1)), hp E w1)) (c2 : ¬ v1 = 0) (c3 : x6 < (gF w1 9)) (h2 : Ev (d - 1) 115 (ent0 115 [.ref 27, .int x2, .int x6] (hp E w1)) (.inl (some (.int v2)), hp E w2)) (c4 : ¬ v2 = 0) (g1 : ((((x5 * (10 : Int32)) + x6) * (9 : Int32)) + x3) = I j1) (b1 : j1 < 810) (c5 : (gA w2 16 j1) < x4) (q4 : (gA w2 16 j1) = y4) (q6 : (x6 + (1 : Int32)) = y6) (e : Ev d 117 (19, [.ref 27, .int x1, .int x2, .int x3, .int y4, .int x5, .int y6, .int (gA w2 16 j1)], [], hp E w2) o) : Ev d 117 (19, [.ref 27, .int x1, .int x2, .int x3, .int x4, .int x5, .int x6, u7], [], hp E w) o := by
  subst q6
  subst q4
  refine Ev.run (c' := (23, [.ref 27, .int x1, .int x2, .int x3, .int x4, .int x5, .int x6, u7], [.int (9 : Int32), .int x6], hp E w)) hM_117 2 rfl ?_
  refine Ev.icF hM_117 rfl (cI_gtF c1) ?_
  refine Ev.run (c' := (30, [.ref 27, .int x1, .int x2, .int x3, .int x4, .int x5, .int x6, u7], [.int x5, .int x1, .ref 27], hp E w)) hM_117 3 rfl ?_
  refine Ev.callR hd hM_117 rfl (y := 114) (as := [.ref 27, .int x1, .int x5]) (rest := []) rfl (Nat.le_of_ble_eq_true rfl) h1 ?_
  refine Ev.run (c' := (33, [.ref 27, .int x1, .int x2, .int x3, .int x4, .int x5, .int x6, u7], [.int v1], hp E w1)) hM_117 0 rfl ?_
  refine Ev.ifF hM_117 rfl (cI_eqF c2) ?_
  refine Ev.run (c' := (42, [.ref 27, .int x1, .int x2, .int x3, .int x4, .int x5, .int x6, u7], [.int (gF w1 9), .int x6], hp E w1)) hM_117 3 rfl ?_
  refine Ev.icT hM_117 rfl (cI_ltT c3) ?_
  refine Ev.run (c' := (56, [.ref 27, .int x1, .int x2, .int x3, .int x4, .int x5, .int x6, u7], [.int x6, .int x2, .ref 27], hp E w1)) hM_117 3 rfl ?_
  refine Ev.callR hd hM_117 rfl (y := 115) (as := [.ref 27, .int x2, .int x6]) (rest := []) rfl (Nat.le_of_ble_eq_true rfl) h2 ?_
  refine Ev.run (c' := (59, [.ref 27, .int x1, .int x2, .int x3, .int x4, .int x5, .int x6, u7], [.int v2], hp E w2)) hM_117 0 rfl ?_
  refine Ev.ifF hM_117 rfl (cI_eqF c4) ?_
  refine Ev.run (c' := (71, [.ref 27, .int x1, .int x2, .int x3, .int x4, .int x5, .int x6, u7], [.int x3, .int x6, .int x5, .ref 34], hp E w2)) hM_117 5 rfl ?_
  refine Ev.callR hd hM_117 rfl (y := 113) (as := [.int x5, .int x6, .int x3]) (rest := [.ref 34]) rfl (Nat.le_of_ble_eq_true rfl) (place_spec) ?_
  refine Ev.run (c' := (74, [.ref 27, .int x1, .int x2, .int x3, .int x4, .int x5, .int x6, u7], [.int ((((x5 * (10 : Int32)) + x6) * (9 : Int32)) + x3), .ref 34], hp E w2)) hM_117 0 rfl ?_
  rw [g1]
  refine Ev.iald hM_117 rfl (a := 34) rfl (inb_I b1 (by decide)) ?_
  rw [I_clamp (Nat.lt_of_lt_of_le b1 (by decide))]
  refine Ev.run (c' := (81, [.ref 27, .int x1, .int x2, .int x3, .int x4, .int x5, .int x6, .int (gA w2 16 j1)], [.int x4, .int (gA w2 16 j1)], hp E w2)) hM_117 3 rfl ?_
  refine Ev.icF hM_117 rfl (cI_geF c5) ?_
  refine Ev.run (c' := (19, [.ref 27, .int x1, .int x2, .int x3, .int (gA w2 16 j1), .int x5, .int (x6 + (1 : Int32)), .int (gA w2 16 j1)], [], hp E w2)) hM_117 5 rfl ?_
  exact e
theorem p117_19_f {E : Nat × (Nat → Int32)} {w : Wd} {d : Nat} {x1 x2 x3 x4 x5 x6 : Int32} {u7 : Value} {o : Ou} {w1 : Wd} {v1 : Int32} {w2 : Wd} {v2 : Int32} {j1 : Nat} {y6 : Int32} (hd : 1 ≤ d) (c1 : ¬ (9 : Int32) < x6) (h1 : Ev (d - 1) 114 (ent0 114 [.ref 27, .int x1, .int x5] (hp E w)) (.inl (some (.int v1)), hp E w1)) (c2 : ¬ v1 = 0) (c3 : x6 < (gF w1 9)) (h2 : Ev (d - 1) 115 (ent0 115 [.ref 27, .int x2, .int x6] (hp E w1)) (.inl (some (.int v2)), hp E w2)) (c4 : ¬ v2 = 0) (g1 : ((((x5 * (10 : Int32)) + x6) * (9 : Int32)) + x3) = I j1) (b1 : j1 < 810) (c5 : ¬ (gA w2 16 j1) < x4) (q6 : (x6 + (1 : Int32)) = y6) (e : Ev d 117 (19, [.ref 27, .int x1, .int x2, .int x3, .int x4, .int x5, .int y6, .int (gA w2 16 j1)], [], hp E w2) o) : Ev d 117 (19, [.ref 27, .int x1, .int x2, .int x3, .int x4, .int x5, .int x6, u7], [], hp E w) o := by
  subst q6
  refine Ev.run (c' := (23, [.ref 27, .int x1, .int x2, .int x3, .int x4, .int x5, .int x6, u7], [.int (9 : Int32), .int x6], hp E w)) hM_117 2 rfl ?_
  refine Ev.icF hM_117 rfl (cI_gtF c1) ?_
  refine Ev.run (c' := (30, [.ref 27, .int x1, .int x2, .int x3, .int x4, .int x5, .int x6, u7], [.int x5, .int x1, .ref 27], hp E w)) hM_117 3 rfl ?_
  refine Ev.callR hd hM_117 rfl (y := 114) (as := [.ref 27, .int x1, .int x5]) (rest := []) rfl (Nat.le_of_ble_eq_true rfl) h1 ?_
  refine Ev.run (c' := (33, [.ref 27, .int x1, .int x2, .int x3, .int x4, .int x5, .int x6, u7], [.int v1], hp E w1)) hM_117 0 rfl ?_
  refine Ev.ifF hM_117 rfl (cI_eqF c2) ?_
  refine Ev.run (c' := (42, [.ref 27, .int x1, .int x2, .int x3, .int x4, .int x5, .int x6, u7], [.int (gF w1 9), .int x6], hp E w1)) hM_117 3 rfl ?_
  refine Ev.icT hM_117 rfl (cI_ltT c3) ?_
  refine Ev.run (c' := (56, [.ref 27, .int x1, .int x2, .int x3, .int x4, .int x5, .int x6, u7], [.int x6, .int x2, .ref 27], hp E w1)) hM_117 3 rfl ?_
  refine Ev.callR hd hM_117 rfl (y := 115) (as := [.ref 27, .int x2, .int x6]) (rest := []) rfl (Nat.le_of_ble_eq_true rfl) h2 ?_
  refine Ev.run (c' := (59, [.ref 27, .int x1, .int x2, .int x3, .int x4, .int x5, .int x6, u7], [.int v2], hp E w2)) hM_117 0 rfl ?_
  refine Ev.ifF hM_117 rfl (cI_eqF c4) ?_
  refine Ev.run (c' := (71, [.ref 27, .int x1, .int x2, .int x3, .int x4, .int x5, .int x6, u7], [.int x3, .int x6, .int x5, .ref 34], hp E w2)) hM_117 5 rfl ?_
  refine Ev.callR hd hM_117 rfl (y := 113) (as := [.int x5, .int x6, .int x3]) (rest := [.ref 34]) rfl (Nat.le_of_ble_eq_true rfl) (place_spec) ?_
  refine Ev.run (c' := (74, [.ref 27, .int x1, .int x2, .int x3, .int x4, .int x5, .int x6, u7], [.int ((((x5 * (10 : Int32)) + x6) * (9 : Int32)) + x3), .ref 34], hp E w2)) hM_117 0 rfl ?_
  rw [g1]
  refine Ev.iald hM_117 rfl (a := 34) rfl (inb_I b1 (by decide)) ?_
  rw [I_clamp (Nat.lt_of_lt_of_le b1 (by decide))]
  refine Ev.run (c' := (81, [.ref 27, .int x1, .int x2, .int x3, .int x4, .int x5, .int x6, .int (gA w2 16 j1)], [.int x4, .int (gA w2 16 j1)], hp E w2)) hM_117 3 rfl ?_
  refine Ev.icT hM_117 rfl (cI_geT c5) ?_
  refine Ev.run (c' := (19, [.ref 27, .int x1, .int x2, .int x3, .int x4, .int x5, .int (x6 + (1 : Int32)), .int (gA w2 16 j1)], [], hp E w2)) hM_117 4 rfl ?_
  exact e
theorem p117_19_g {E : Nat × (Nat → Int32)} {w : Wd} {d : Nat} {x1 x2 x3 x4 x5 x6 : Int32} {u7 : Value} {o : Ou} {w1 : Wd} {v1 : Int32} {w2 : Wd} {v2 : Int32} {y6 : Int32} (hd : 1 ≤ d) (c1 : ¬ (9 : Int32) < x6) (h1 : Ev (d - 1) 114 (ent0 114 [.ref 27, .int x1, .int x5] (hp E w)) (.inl (some (.int v1)), hp E w1)) (c2 : ¬ v1 = 0) (c3 : x6 < (gF w1 9)) (h2 : Ev (d - 1) 115 (ent0 115 [.ref 27, .int x2, .int x6] (hp E w1)) (.inl (some (.int v2)), hp E w2)) (c4 : v2 = 0) (q6 : (x6 + (1 : Int32)) = y6) (e : Ev d 117 (19, [.ref 27, .int x1, .int x2, .int x3, .int x4, .int x5, .int y6, u7], [], hp E w2) o) : Ev d 117 (19, [.ref 27, .int x1, .int x2, .int x3, .int x4, .int x5, .int x6, u7], [], hp E w) o := by
  subst q6
  refine Ev.run (c' := (23, [.ref 27, .int x1, .int x2, .int x3, .int x4, .int x5, .int x6, u7], [.int (9 : Int32), .int x6], hp E w)) hM_117 2 rfl ?_
  refine Ev.icF hM_117 rfl (cI_gtF c1) ?_
  refine Ev.run (c' := (30, [.ref 27, .int x1, .int x2, .int x3, .int x4, .int x5, .int x6, u7], [.int x5, .int x1, .ref 27], hp E w)) hM_117 3 rfl ?_
  refine Ev.callR hd hM_117 rfl (y := 114) (as := [.ref 27, .int x1, .int x5]) (rest := []) rfl (Nat.le_of_ble_eq_true rfl) h1 ?_
  refine Ev.run (c' := (33, [.ref 27, .int x1, .int x2, .int x3, .int x4, .int x5, .int x6, u7], [.int v1], hp E w1)) hM_117 0 rfl ?_
  refine Ev.ifF hM_117 rfl (cI_eqF c2) ?_
  refine Ev.run (c' := (42, [.ref 27, .int x1, .int x2, .int x3, .int x4, .int x5, .int x6, u7], [.int (gF w1 9), .int x6], hp E w1)) hM_117 3 rfl ?_
  refine Ev.icT hM_117 rfl (cI_ltT c3) ?_
  refine Ev.run (c' := (56, [.ref 27, .int x1, .int x2, .int x3, .int x4, .int x5, .int x6, u7], [.int x6, .int x2, .ref 27], hp E w1)) hM_117 3 rfl ?_
  refine Ev.callR hd hM_117 rfl (y := 115) (as := [.ref 27, .int x2, .int x6]) (rest := []) rfl (Nat.le_of_ble_eq_true rfl) h2 ?_
  refine Ev.run (c' := (59, [.ref 27, .int x1, .int x2, .int x3, .int x4, .int x5, .int x6, u7], [.int v2], hp E w2)) hM_117 0 rfl ?_
  refine Ev.ifT hM_117 rfl (cI_eqT c4) ?_
  refine Ev.run (c' := (19, [.ref 27, .int x1, .int x2, .int x3, .int x4, .int x5, .int (x6 + (1 : Int32)), u7], [], hp E w2)) hM_117 2 rfl ?_
  exact e
theorem p117_19_h {E : Nat × (Nat → Int32)} {w : Wd} {d : Nat} {x1 x2 x3 x4 x5 x6 : Int32} {u7 : Value} {o : Ou} {w1 : Wd} {v1 : Int32} {y6 : Int32} (hd : 1 ≤ d) (c1 : ¬ (9 : Int32) < x6) (h1 : Ev (d - 1) 114 (ent0 114 [.ref 27, .int x1, .int x5] (hp E w)) (.inl (some (.int v1)), hp E w1)) (c2 : v1 = 0) (q6 : (x6 + (1 : Int32)) = y6) (e : Ev d 117 (19, [.ref 27, .int x1, .int x2, .int x3, .int x4, .int x5, .int y6, u7], [], hp E w1) o) : Ev d 117 (19, [.ref 27, .int x1, .int x2, .int x3, .int x4, .int x5, .int x6, u7], [], hp E w) o := by
  subst q6
  refine Ev.run (c' := (23, [.ref 27, .int x1, .int x2, .int x3, .int x4, .int x5, .int x6, u7], [.int (9 : Int32), .int x6], hp E w)) hM_117 2 rfl ?_
  refine Ev.icF hM_117 rfl (cI_gtF c1) ?_
  refine Ev.run (c' := (30, [.ref 27, .int x1, .int x2, .int x3, .int x4, .int x5, .int x6, u7], [.int x5, .int x1, .ref 27], hp E w)) hM_117 3 rfl ?_
  refine Ev.callR hd hM_117 rfl (y := 114) (as := [.ref 27, .int x1, .int x5]) (rest := []) rfl (Nat.le_of_ble_eq_true rfl) h1 ?_
  refine Ev.run (c' := (33, [.ref 27, .int x1, .int x2, .int x3, .int x4, .int x5, .int x6, u7], [.int v1], hp E w1)) hM_117 0 rfl ?_
  refine Ev.ifT hM_117 rfl (cI_eqT c2) ?_
  refine Ev.run (c' := (19, [.ref 27, .int x1, .int x2, .int x3, .int x4, .int x5, .int (x6 + (1 : Int32)), u7], [], hp E w1)) hM_117 2 rfl ?_
  exact e
theorem p117_19_i {E : Nat × (Nat → Int32)} {w : Wd} {d : Nat} {x1 x2 x3 x4 x5 x6 : Int32} {u7 : Value} {o : Ou} {y5 : Int32} (c1 : (9 : Int32) < x6) (q5 : (x5 + (1 : Int32)) = y5) (e : Ev d 117 (7, [.ref 27, .int x1, .int x2, .int x3, .int x4, .int y5, .int x6, u7], [], hp E w) o) : Ev d 117 (19, [.ref 27, .int x1, .int x2, .int x3, .int x4, .int x5, .int x6, u7], [], hp E w) o := by
  subst q5
  refine Ev.run (c' := (23, [.ref 27, .int x1, .int x2, .int x3, .int x4, .int x5, .int x6, u7], [.int (9 : Int32), .int x6], hp E w)) hM_117 2 rfl ?_
  refine Ev.icT hM_117 rfl (cI_gtT c1) ?_
  refine Ev.run (c' := (7, [.ref 27, .int x1, .int x2, .int x3, .int x4, .int (x5 + (1 : Int32)), .int x6, u7], [], hp E w)) hM_117 2 rfl ?_
  exact e
theorem hM_118 : mAt 118 = some km_X8_fill := rfl
theorem p118_e_a {E : Nat × (Nat → Int32)} {w : Wd} {d : Nat} {x1 : Int32} {o : Ou}  (c1 : ¬ x1 = 0) (c2 : ¬ x1 = 0) (e : Ev d 118 (30, [.ref 27, .int x1, .int (9 : Int32), .int (9 : Int32), .int (0 : Int32), jk, jk, jk, jk, jk], [], hp E w) o) : Ev d 118 (ent0 118 [.ref 27, .int x1] (hp E w)) o := by
  refine Ev.run (c' := (1, [.ref 27, .int x1, jk, jk, jk, jk, jk, jk, jk, jk], [.int x1], hp E w)) hM_118 1 rfl ?_
  refine Ev.ifF hM_118 rfl (cI_eqF c1) ?_
  refine Ev.run (c' := (12, [.ref 27, .int x1, .int (9 : Int32), jk, jk, jk, jk, jk, jk, jk], [.int x1], hp E w)) hM_118 4 rfl ?_
  refine Ev.ifF hM_118 rfl (cI_eqF c2) ?_
  refine Ev.run (c' := (30, [.ref 27, .int x1, .int (9 : Int32), .int (9 : Int32), .int (0 : Int32), jk, jk, jk, jk, jk], [], hp E w)) hM_118 5 rfl ?_
  exact e
theorem p118_e_b {E : Nat × (Nat → Int32)} {w : Wd} {d : Nat} {x1 : Int32} {o : Ou} {y3 : Int32} (c1 : ¬ x1 = 0) (c2 : x1 = 0) (q3 : ((gF w 9) - (1 : Int32)) = y3) (e : Ev d 118 (30, [.ref 27, .int x1, .int (9 : Int32), .int y3, .int (0 : Int32), jk, jk, jk, jk, jk], [], hp E w) o) : Ev d 118 (ent0 118 [.ref 27, .int x1] (hp E w)) o := by
  subst q3
  refine Ev.run (c' := (1, [.ref 27, .int x1, jk, jk, jk, jk, jk, jk, jk, jk], [.int x1], hp E w)) hM_118 1 rfl ?_
  refine Ev.ifF hM_118 rfl (cI_eqF c1) ?_
  refine Ev.run (c' := (12, [.ref 27, .int x1, .int (9 : Int32), jk, jk, jk, jk, jk, jk, jk], [.int x1], hp E w)) hM_118 4 rfl ?_
  refine Ev.ifT hM_118 rfl (cI_eqT c2) ?_
  refine Ev.run (c' := (30, [.ref 27, .int x1, .int (9 : Int32), .int ((gF w 9) - (1 : Int32)), .int (0 : Int32), jk, jk, jk, jk, jk], [], hp E w)) hM_118 7 rfl ?_
  exact e
theorem p118_e_c {E : Nat × (Nat → Int32)} {w : Wd} {d : Nat} {x1 : Int32} {o : Ou}  (c1 : x1 = 0) (c2 : ¬ x1 = 0) (e : Ev d 118 (30, [.ref 27, .int x1, .int (0 : Int32), .int (9 : Int32), .int (0 : Int32), jk, jk, jk, jk, jk], [], hp E w) o) : Ev d 118 (ent0 118 [.ref 27, .int x1] (hp E w)) o := by
  refine Ev.run (c' := (1, [.ref 27, .int x1, jk, jk, jk, jk, jk, jk, jk, jk], [.int x1], hp E w)) hM_118 1 rfl ?_
  refine Ev.ifT hM_118 rfl (cI_eqT c1) ?_
  refine Ev.run (c' := (12, [.ref 27, .int x1, .int (0 : Int32), jk, jk, jk, jk, jk, jk, jk], [.int x1], hp E w)) hM_118 3 rfl ?_
  refine Ev.ifF hM_118 rfl (cI_eqF c2) ?_
  refine Ev.run (c' := (30, [.ref 27, .int x1, .int (0 : Int32), .int (9 : Int32), .int (0 : Int32), jk, jk, jk, jk, jk], [], hp E w)) hM_118 5 rfl ?_
  exact e
theorem p118_e_d {E : Nat × (Nat → Int32)} {w : Wd} {d : Nat} {x1 : Int32} {o : Ou} {y3 : Int32} (c1 : x1 = 0) (c2 : x1 = 0) (q3 : ((gF w 9) - (1 : Int32)) = y3) (e : Ev d 118 (30, [.ref 27, .int x1, .int (0 : Int32), .int y3, .int (0 : Int32), jk, jk, jk, jk, jk], [], hp E w) o) : Ev d 118 (ent0 118 [.ref 27, .int x1] (hp E w)) o := by
  subst q3
  refine Ev.run (c' := (1, [.ref 27, .int x1, jk, jk, jk, jk, jk, jk, jk, jk], [.int x1], hp E w)) hM_118 1 rfl ?_
  refine Ev.ifT hM_118 rfl (cI_eqT c1) ?_
  refine Ev.run (c' := (12, [.ref 27, .int x1, .int (0 : Int32), jk, jk, jk, jk, jk, jk, jk], [.int x1], hp E w)) hM_118 3 rfl ?_
  refine Ev.ifT hM_118 rfl (cI_eqT c2) ?_
  refine Ev.run (c' := (30, [.ref 27, .int x1, .int (0 : Int32), .int ((gF w 9) - (1 : Int32)), .int (0 : Int32), jk, jk, jk, jk, jk], [], hp E w)) hM_118 7 rfl ?_
  exact e
theorem p118_30_a {E : Nat × (Nat → Int32)} {w : Wd} {d : Nat} {x1 x2 x3 x4 : Int32} {o : Ou} {j1 : Nat} {y4 : Int32} {w' : Wd} (c1 : x4 < (810 : Int32)) (g1 : x4 = I j1) (b1 : j1 < 810) (q4 : ((I j1) + (1 : Int32)) = y4) (qw : (sA 16 (upd (gA (sA 15 (upd (gA w 15) j1 (99 : Int32)) w) 16) j1 (99 : Int32)) (sA 15 (upd (gA w 15) j1 (99 : Int32)) w)) = w') (e : Ev d 118 (30, [.ref 27, .int x1, .int x2, .int x3, .int y4, jk, jk, jk, jk, jk], [], hp E w') o) : Ev d 118 (30, [.ref 27, .int x1, .int x2, .int x3, .int x4, jk, jk, jk, jk, jk], [], hp E w) o := by
  subst qw
  subst q4
  refine Ev.run (c' := (35, [.ref 27, .int x1, .int x2, .int x3, .int x4, jk, jk, jk, jk, jk], [.int (810 : Int32), .int x4], hp E w)) hM_118 2 rfl ?_
  refine Ev.icF hM_118 rfl (cI_geF c1) ?_
  refine Ev.run (c' := (46, [.ref 27, .int x1, .int x2, .int x3, .int x4, jk, jk, jk, jk, jk], [.int (99 : Int32), .int x4, .ref 33], hp E w)) hM_118 4 rfl ?_
  subst g1
  refine Ev.iast hM_118 rfl (a := 32) rfl (inb_I b1 (by decide)) (h' := hp E (sA 15 (upd (gA w 15) j1 (99 : Int32)) w)) (by rw [I_clamp (Nat.lt_of_lt_of_le b1 (by decide))]; rfl) ?_
  refine Ev.run (c' := (55, [.ref 27, .int x1, .int x2, .int x3, .int (I j1), jk, jk, jk, jk, jk], [.int (99 : Int32), .int (I j1), .ref 34], hp E (sA 15 (upd (gA w 15) j1 (99 : Int32)) w))) hM_118 4 rfl ?_
  refine Ev.iast hM_118 rfl (a := 33) rfl (inb_I b1 (by decide)) (h' := hp E (sA 16 (upd (gA (sA 15 (upd (gA w 15) j1 (99 : Int32)) w) 16) j1 (99 : Int32)) (sA 15 (upd (gA w 15) j1 (99 : Int32)) w))) (by rw [I_clamp (Nat.lt_of_lt_of_le b1 (by decide))]; rfl) ?_
  refine Ev.run (c' := (30, [.ref 27, .int x1, .int x2, .int x3, .int ((I j1) + (1 : Int32)), jk, jk, jk, jk, jk], [], hp E (sA 16 (upd (gA (sA 15 (upd (gA w 15) j1 (99 : Int32)) w) 16) j1 (99 : Int32)) (sA 15 (upd (gA w 15) j1 (99 : Int32)) w)))) hM_118 2 rfl ?_
  exact e
theorem p118_30_b {E : Nat × (Nat → Int32)} {w : Wd} {d : Nat} {x1 x2 x3 x4 : Int32} {o : Ou}  (c1 : ¬ x4 < (810 : Int32)) (e : Ev d 118 (65, [.ref 27, .int x1, .int x2, .int x3, .int (0 : Int32), jk, jk, jk, jk, jk], [], hp E w) o) : Ev d 118 (30, [.ref 27, .int x1, .int x2, .int x3, .int x4, jk, jk, jk, jk, jk], [], hp E w) o := by
  refine Ev.run (c' := (35, [.ref 27, .int x1, .int x2, .int x3, .int x4, jk, jk, jk, jk, jk], [.int (810 : Int32), .int x4], hp E w)) hM_118 2 rfl ?_
  refine Ev.icT hM_118 rfl (cI_geT c1) ?_
  refine Ev.run (c' := (65, [.ref 27, .int x1, .int x2, .int x3, .int (0 : Int32), jk, jk, jk, jk, jk], [], hp E w)) hM_118 2 rfl ?_
  exact e
theorem p118_65_a {E : Nat × (Nat → Int32)} {w : Wd} {d : Nat} {x1 x2 x3 x4 : Int32} {u5 u6 : Value} {o : Ou}  (c1 : x4 < (gF w 9)) (e : Ev d 118 (77, [.ref 27, .int x1, .int x2, .int x3, .int x4, .int x2, u6, jk, jk, jk], [], hp E w) o) : Ev d 118 (65, [.ref 27, .int x1, .int x2, .int x3, .int x4, u5, u6, jk, jk, jk], [], hp E w) o := by
  refine Ev.run (c' := (71, [.ref 27, .int x1, .int x2, .int x3, .int x4, u5, u6, jk, jk, jk], [.int (gF w 9), .int x4], hp E w)) hM_118 3 rfl ?_
  refine Ev.icF hM_118 rfl (cI_geF c1) ?_
  refine Ev.run (c' := (77, [.ref 27, .int x1, .int x2, .int x3, .int x4, .int x2, u6, jk, jk, jk], [], hp E w)) hM_118 2 rfl ?_
  exact e
theorem p118_65_b {E : Nat × (Nat → Int32)} {w : Wd} {d : Nat} {x1 x2 x3 x4 : Int32} {u5 u6 : Value} {o : Ou}  (c1 : ¬ x4 < (gF w 9)) (e : Ev d 118 (160, [.ref 27, .int x1, .int x2, .int x3, .int (1 : Int32), u5, u6, jk, jk, jk], [], hp E w) o) : Ev d 118 (65, [.ref 27, .int x1, .int x2, .int x3, .int x4, u5, u6, jk, jk, jk], [], hp E w) o := by
  refine Ev.run (c' := (71, [.ref 27, .int x1, .int x2, .int x3, .int x4, u5, u6, jk, jk, jk], [.int (gF w 9), .int x4], hp E w)) hM_118 3 rfl ?_
  refine Ev.icT hM_118 rfl (cI_geT c1) ?_
  refine Ev.run (c' := (160, [.ref 27, .int x1, .int x2, .int x3, .int (1 : Int32), u5, u6, jk, jk, jk], [], hp E w)) hM_118 2 rfl ?_
  exact e
theorem p118_77_a {E : Nat × (Nat → Int32)} {w : Wd} {d : Nat} {x1 x2 x3 x4 x5 : Int32} {u6 : Value} {o : Ou}  (c1 : ¬ x3 < x5) (e : Ev d 118 (86, [.ref 27, .int x1, .int x2, .int x3, .int x4, .int x5, .int (0 : Int32), jk, jk, jk], [], hp E w) o) : Ev d 118 (77, [.ref 27, .int x1, .int x2, .int x3, .int x4, .int x5, u6, jk, jk, jk], [], hp E w) o := by
  refine Ev.run (c' := (80, [.ref 27, .int x1, .int x2, .int x3, .int x4, .int x5, u6, jk, jk, jk], [.int x3, .int x5], hp E w)) hM_118 2 rfl ?_
  refine Ev.icF hM_118 rfl (cI_gtF c1) ?_
  refine Ev.run (c' := (86, [.ref 27, .int x1, .int x2, .int x3, .int x4, .int x5, .int (0 : Int32), jk, jk, jk], [], hp E w)) hM_118 2 rfl ?_
  exact e
theorem p118_77_b {E : Nat × (Nat → Int32)} {w : Wd} {d : Nat} {x1 x2 x3 x4 x5 : Int32} {u6 : Value} {o : Ou} {y4 : Int32} (c1 : x3 < x5) (q4 : (x4 + (1 : Int32)) = y4) (e : Ev d 118 (65, [.ref 27, .int x1, .int x2, .int x3, .int y4, .int x5, u6, jk, jk, jk], [], hp E w) o) : Ev d 118 (77, [.ref 27, .int x1, .int x2, .int x3, .int x4, .int x5, u6, jk, jk, jk], [], hp E w) o := by
  subst q4
  refine Ev.run (c' := (80, [.ref 27, .int x1, .int x2, .int x3, .int x4, .int x5, u6, jk, jk, jk], [.int x3, .int x5], hp E w)) hM_118 2 rfl ?_
  refine Ev.icT hM_118 rfl (cI_gtT c1) ?_
  refine Ev.run (c' := (65, [.ref 27, .int x1, .int x2, .int x3, .int (x4 + (1 : Int32)), .int x5, u6, jk, jk, jk], [], hp E w)) hM_118 2 rfl ?_
  exact e
theorem p118_86_a {E : Nat × (Nat → Int32)} {w : Wd} {d : Nat} {x1 x2 x3 x4 x5 x6 : Int32} {o : Ou} {j1 : Nat} {j2 : Nat} {y6 : Int32} {w' : Wd} (hd : 1 ≤ d) (c1 : x6 < (gF w 9)) (c2 : ¬ x4 = x6) (c3 : x5 = x6) (g1 : ((((x4 * (10 : Int32)) + x5) * (9 : Int32)) + x6) = I j1) (b1 : j1 < 810) (g2 : ((((x4 * (10 : Int32)) + x5) * (9 : Int32)) + x6) = I j2) (b2 : j2 < 810) (q6 : (x6 + (1 : Int32)) = y6) (qw : (sA 16 (upd (gA (sA 15 (upd (gA w 15) j1 (0 : Int32)) w) 16) j2 (0 : Int32)) (sA 15 (upd (gA w 15) j1 (0 : Int32)) w)) = w') (e : Ev d 118 (86, [.ref 27, .int x1, .int x2, .int x3, .int x4, .int x5, .int y6, jk, jk, jk], [], hp E w') o) : Ev d 118 (86, [.ref 27, .int x1, .int x2, .int x3, .int x4, .int x5, .int x6, jk, jk, jk], [], hp E w) o := by
  subst qw
  subst q6
  refine Ev.run (c' := (92, [.ref 27, .int x1, .int x2, .int x3, .int x4, .int x5, .int x6, jk, jk, jk], [.int (gF w 9), .int x6], hp E w)) hM_118 3 rfl ?_
  refine Ev.icF hM_118 rfl (cI_geF c1) ?_
  refine Ev.run (c' := (99, [.ref 27, .int x1, .int x2, .int x3, .int x4, .int x5, .int x6, jk, jk, jk], [.int x6, .int x4], hp E w)) hM_118 2 rfl ?_
  refine Ev.icF hM_118 rfl (cI_eqF c2) ?_
  refine Ev.run (c' := (106, [.ref 27, .int x1, .int x2, .int x3, .int x4, .int x5, .int x6, jk, jk, jk], [.int x6, .int x5], hp E w)) hM_118 2 rfl ?_
  refine Ev.icF hM_118 rfl (cI_neF c3) ?_
  refine Ev.run (c' := (119, [.ref 27, .int x1, .int x2, .int x3, .int x4, .int x5, .int x6, jk, jk, jk], [.int x6, .int x5, .int x4, .ref 33], hp E w)) hM_118 5 rfl ?_
  refine Ev.callR hd hM_118 rfl (y := 113) (as := [.int x4, .int x5, .int x6]) (rest := [.ref 33]) rfl (Nat.le_of_ble_eq_true rfl) (place_spec) ?_
  refine Ev.run (c' := (123, [.ref 27, .int x1, .int x2, .int x3, .int x4, .int x5, .int x6, jk, jk, jk], [.int (0 : Int32), .int ((((x4 * (10 : Int32)) + x5) * (9 : Int32)) + x6), .ref 33], hp E w)) hM_118 1 rfl ?_
  rw [g1]
  refine Ev.iast hM_118 rfl (a := 32) rfl (inb_I b1 (by decide)) (h' := hp E (sA 15 (upd (gA w 15) j1 (0 : Int32)) w)) (by rw [I_clamp (Nat.lt_of_lt_of_le b1 (by decide))]; rfl) ?_
  refine Ev.run (c' := (134, [.ref 27, .int x1, .int x2, .int x3, .int x4, .int x5, .int x6, jk, jk, jk], [.int x6, .int x5, .int x4, .ref 34], hp E (sA 15 (upd (gA w 15) j1 (0 : Int32)) w))) hM_118 5 rfl ?_
  refine Ev.callR hd hM_118 rfl (y := 113) (as := [.int x4, .int x5, .int x6]) (rest := [.ref 34]) rfl (Nat.le_of_ble_eq_true rfl) (place_spec) ?_
  refine Ev.run (c' := (138, [.ref 27, .int x1, .int x2, .int x3, .int x4, .int x5, .int x6, jk, jk, jk], [.int (0 : Int32), .int ((((x4 * (10 : Int32)) + x5) * (9 : Int32)) + x6), .ref 34], hp E (sA 15 (upd (gA w 15) j1 (0 : Int32)) w))) hM_118 1 rfl ?_
  rw [g2]
  refine Ev.iast hM_118 rfl (a := 33) rfl (inb_I b2 (by decide)) (h' := hp E (sA 16 (upd (gA (sA 15 (upd (gA w 15) j1 (0 : Int32)) w) 16) j2 (0 : Int32)) (sA 15 (upd (gA w 15) j1 (0 : Int32)) w))) (by rw [I_clamp (Nat.lt_of_lt_of_le b2 (by decide))]; rfl) ?_
  refine Ev.run (c' := (86, [.ref 27, .int x1, .int x2, .int x3, .int x4, .int x5, .int (x6 + (1 : Int32)), jk, jk, jk], [], hp E (sA 16 (upd (gA (sA 15 (upd (gA w 15) j1 (0 : Int32)) w) 16) j2 (0 : Int32)) (sA 15 (upd (gA w 15) j1 (0 : Int32)) w)))) hM_118 2 rfl ?_
  exact e
theorem p118_86_b {E : Nat × (Nat → Int32)} {w : Wd} {d : Nat} {x1 x2 x3 x4 x5 x6 : Int32} {o : Ou} {y6 : Int32} (c1 : x6 < (gF w 9)) (c2 : ¬ x4 = x6) (c3 : ¬ x5 = x6) (q6 : (x6 + (1 : Int32)) = y6) (e : Ev d 118 (86, [.ref 27, .int x1, .int x2, .int x3, .int x4, .int x5, .int y6, jk, jk, jk], [], hp E w) o) : Ev d 118 (86, [.ref 27, .int x1, .int x2, .int x3, .int x4, .int x5, .int x6, jk, jk, jk], [], hp E w) o := by
  subst q6
  refine Ev.run (c' := (92, [.ref 27, .int x1, .int x2, .int x3, .int x4, .int x5, .int x6, jk, jk, jk], [.int (gF w 9), .int x6], hp E w)) hM_118 3 rfl ?_
  refine Ev.icF hM_118 rfl (cI_geF c1) ?_
  refine Ev.run (c' := (99, [.ref 27, .int x1, .int x2, .int x3, .int x4, .int x5, .int x6, jk, jk, jk], [.int x6, .int x4], hp E w)) hM_118 2 rfl ?_
  refine Ev.icF hM_118 rfl (cI_eqF c2) ?_
  refine Ev.run (c' := (106, [.ref 27, .int x1, .int x2, .int x3, .int x4, .int x5, .int x6, jk, jk, jk], [.int x6, .int x5], hp E w)) hM_118 2 rfl ?_
  refine Ev.icT hM_118 rfl (cI_neT c3) ?_
  refine Ev.run (c' := (86, [.ref 27, .int x1, .int x2, .int x3, .int x4, .int x5, .int (x6 + (1 : Int32)), jk, jk, jk], [], hp E w)) hM_118 2 rfl ?_
  exact e
theorem p118_86_c {E : Nat × (Nat → Int32)} {w : Wd} {d : Nat} {x1 x2 x3 x4 x5 x6 : Int32} {o : Ou} {j1 : Nat} {j2 : Nat} {y6 : Int32} {w' : Wd} (hd : 1 ≤ d) (c1 : x6 < (gF w 9)) (c2 : x4 = x6) (g1 : ((((x4 * (10 : Int32)) + x5) * (9 : Int32)) + x6) = I j1) (b1 : j1 < 810) (g2 : ((((x4 * (10 : Int32)) + x5) * (9 : Int32)) + x6) = I j2) (b2 : j2 < 810) (q6 : (x6 + (1 : Int32)) = y6) (qw : (sA 16 (upd (gA (sA 15 (upd (gA w 15) j1 (0 : Int32)) w) 16) j2 (0 : Int32)) (sA 15 (upd (gA w 15) j1 (0 : Int32)) w)) = w') (e : Ev d 118 (86, [.ref 27, .int x1, .int x2, .int x3, .int x4, .int x5, .int y6, jk, jk, jk], [], hp E w') o) : Ev d 118 (86, [.ref 27, .int x1, .int x2, .int x3, .int x4, .int x5, .int x6, jk, jk, jk], [], hp E w) o := by
  subst qw
  subst q6
  refine Ev.run (c' := (92, [.ref 27, .int x1, .int x2, .int x3, .int x4, .int x5, .int x6, jk, jk, jk], [.int (gF w 9), .int x6], hp E w)) hM_118 3 rfl ?_
  refine Ev.icF hM_118 rfl (cI_geF c1) ?_
  refine Ev.run (c' := (99, [.ref 27, .int x1, .int x2, .int x3, .int x4, .int x5, .int x6, jk, jk, jk], [.int x6, .int x4], hp E w)) hM_118 2 rfl ?_
  refine Ev.icT hM_118 rfl (cI_eqT c2) ?_
  refine Ev.run (c' := (119, [.ref 27, .int x1, .int x2, .int x3, .int x4, .int x5, .int x6, jk, jk, jk], [.int x6, .int x5, .int x4, .ref 33], hp E w)) hM_118 5 rfl ?_
  refine Ev.callR hd hM_118 rfl (y := 113) (as := [.int x4, .int x5, .int x6]) (rest := [.ref 33]) rfl (Nat.le_of_ble_eq_true rfl) (place_spec) ?_
  refine Ev.run (c' := (123, [.ref 27, .int x1, .int x2, .int x3, .int x4, .int x5, .int x6, jk, jk, jk], [.int (0 : Int32), .int ((((x4 * (10 : Int32)) + x5) * (9 : Int32)) + x6), .ref 33], hp E w)) hM_118 1 rfl ?_
  rw [g1]
  refine Ev.iast hM_118 rfl (a := 32) rfl (inb_I b1 (by decide)) (h' := hp E (sA 15 (upd (gA w 15) j1 (0 : Int32)) w)) (by rw [I_clamp (Nat.lt_of_lt_of_le b1 (by decide))]; rfl) ?_
  refine Ev.run (c' := (134, [.ref 27, .int x1, .int x2, .int x3, .int x4, .int x5, .int x6, jk, jk, jk], [.int x6, .int x5, .int x4, .ref 34], hp E (sA 15 (upd (gA w 15) j1 (0 : Int32)) w))) hM_118 5 rfl ?_
  refine Ev.callR hd hM_118 rfl (y := 113) (as := [.int x4, .int x5, .int x6]) (rest := [.ref 34]) rfl (Nat.le_of_ble_eq_true rfl) (place_spec) ?_
  refine Ev.run (c' := (138, [.ref 27, .int x1, .int x2, .int x3, .int x4, .int x5, .int x6, jk, jk, jk], [.int (0 : Int32), .int ((((x4 * (10 : Int32)) + x5) * (9 : Int32)) + x6), .ref 34], hp E (sA 15 (upd (gA w 15) j1 (0 : Int32)) w))) hM_118 1 rfl ?_
  rw [g2]
  refine Ev.iast hM_118 rfl (a := 33) rfl (inb_I b2 (by decide)) (h' := hp E (sA 16 (upd (gA (sA 15 (upd (gA w 15) j1 (0 : Int32)) w) 16) j2 (0 : Int32)) (sA 15 (upd (gA w 15) j1 (0 : Int32)) w))) (by rw [I_clamp (Nat.lt_of_lt_of_le b2 (by decide))]; rfl) ?_
  refine Ev.run (c' := (86, [.ref 27, .int x1, .int x2, .int x3, .int x4, .int x5, .int (x6 + (1 : Int32)), jk, jk, jk], [], hp E (sA 16 (upd (gA (sA 15 (upd (gA w 15) j1 (0 : Int32)) w) 16) j2 (0 : Int32)) (sA 15 (upd (gA w 15) j1 (0 : Int32)) w)))) hM_118 2 rfl ?_
  exact e
theorem p118_86_d {E : Nat × (Nat → Int32)} {w : Wd} {d : Nat} {x1 x2 x3 x4 x5 x6 : Int32} {o : Ou} {y5 : Int32} (c1 : ¬ x6 < (gF w 9)) (q5 : (x5 + (1 : Int32)) = y5) (e : Ev d 118 (77, [.ref 27, .int x1, .int x2, .int x3, .int x4, .int y5, .int x6, jk, jk, jk], [], hp E w) o) : Ev d 118 (86, [.ref 27, .int x1, .int x2, .int x3, .int x4, .int x5, .int x6, jk, jk, jk], [], hp E w) o := by
  subst q5
  refine Ev.run (c' := (92, [.ref 27, .int x1, .int x2, .int x3, .int x4, .int x5, .int x6, jk, jk, jk], [.int (gF w 9), .int x6], hp E w)) hM_118 3 rfl ?_
  refine Ev.icT hM_118 rfl (cI_geT c1) ?_
  refine Ev.run (c' := (77, [.ref 27, .int x1, .int x2, .int x3, .int x4, .int (x5 + (1 : Int32)), .int x6, jk, jk, jk], [], hp E w)) hM_118 2 rfl ?_
  exact e
theorem p118_160_a {E : Nat × (Nat → Int32)} {w : Wd} {d : Nat} {x1 x2 x3 x4 : Int32} {u5 u6 u7 u8 u9 : Value} {o : Ou}  (c1 : ¬ x4 = 0) (e : Ev d 118 (171, [.ref 27, .int x1, .int x2, .int x3, .int (0 : Int32), .int (0 : Int32), u6, u7, u8, u9], [], hp E w) o) : Ev d 118 (160, [.ref 27, .int x1, .int x2, .int x3, .int x4, u5, u6, u7, u8, u9], [], hp E w) o := by
  refine Ev.run (c' := (162, [.ref 27, .int x1, .int x2, .int x3, .int x4, u5, u6, u7, u8, u9], [.int x4], hp E w)) hM_118 1 rfl ?_
  refine Ev.ifF hM_118 rfl (cI_eqF c1) ?_
  refine Ev.run (c' := (171, [.ref 27, .int x1, .int x2, .int x3, .int (0 : Int32), .int (0 : Int32), u6, u7, u8, u9], [], hp E w)) hM_118 4 rfl ?_
  exact e
theorem p118_160_b {E : Nat × (Nat → Int32)} {w : Wd} {d : Nat} {x1 x2 x3 x4 : Int32} {u5 u6 u7 u8 u9 : Value}  (c1 : x4 = 0) : Ev d 118 (160, [.ref 27, .int x1, .int x2, .int x3, .int x4, u5, u6, u7, u8, u9], [], hp E w) (.inl none, hp E w) := by
  refine Ev.run (c' := (162, [.ref 27, .int x1, .int x2, .int x3, .int x4, u5, u6, u7, u8, u9], [.int x4], hp E w)) hM_118 1 rfl ?_
  refine Ev.ifT hM_118 rfl (cI_eqT c1) ?_
  exact Ev.fin hM_118 rfl rfl
theorem p118_171_a {E : Nat × (Nat → Int32)} {w : Wd} {d : Nat} {x1 x2 x3 x4 x5 : Int32} {u6 u7 u8 u9 : Value} {o : Ou}  (c1 : x5 < (gF w 9)) (e : Ev d 118 (183, [.ref 27, .int x1, .int x2, .int x3, .int x4, .int x5, .int x2, u7, u8, u9], [], hp E w) o) : Ev d 118 (171, [.ref 27, .int x1, .int x2, .int x3, .int x4, .int x5, u6, u7, u8, u9], [], hp E w) o := by
  refine Ev.run (c' := (177, [.ref 27, .int x1, .int x2, .int x3, .int x4, .int x5, u6, u7, u8, u9], [.int (gF w 9), .int x5], hp E w)) hM_118 3 rfl ?_
  refine Ev.icF hM_118 rfl (cI_geF c1) ?_
  refine Ev.run (c' := (183, [.ref 27, .int x1, .int x2, .int x3, .int x4, .int x5, .int x2, u7, u8, u9], [], hp E w)) hM_118 2 rfl ?_
  exact e
theorem p118_171_b {E : Nat × (Nat → Int32)} {w : Wd} {d : Nat} {x1 x2 x3 x4 x5 : Int32} {u6 u7 u8 u9 : Value} {o : Ou}  (c1 : ¬ x5 < (gF w 9)) (e : Ev d 118 (283, [.ref 27, .int x1, .int x2, .int x3, .int x4, .int (0 : Int32), u6, u7, u8, u9], [], hp E w) o) : Ev d 118 (171, [.ref 27, .int x1, .int x2, .int x3, .int x4, .int x5, u6, u7, u8, u9], [], hp E w) o := by
  refine Ev.run (c' := (177, [.ref 27, .int x1, .int x2, .int x3, .int x4, .int x5, u6, u7, u8, u9], [.int (gF w 9), .int x5], hp E w)) hM_118 3 rfl ?_
  refine Ev.icT hM_118 rfl (cI_geT c1) ?_
  refine Ev.run (c' := (283, [.ref 27, .int x1, .int x2, .int x3, .int x4, .int (0 : Int32), u6, u7, u8, u9], [], hp E w)) hM_118 2 rfl ?_
  exact e
theorem p118_183_a {E : Nat × (Nat → Int32)} {w : Wd} {d : Nat} {x1 x2 x3 x4 x5 x6 : Int32} {u7 u8 u9 : Value} {o : Ou}  (c1 : ¬ x3 < x6) (e : Ev d 118 (192, [.ref 27, .int x1, .int x2, .int x3, .int x4, .int x5, .int x6, .int (0 : Int32), u8, u9], [], hp E w) o) : Ev d 118 (183, [.ref 27, .int x1, .int x2, .int x3, .int x4, .int x5, .int x6, u7, u8, u9], [], hp E w) o := by
  refine Ev.run (c' := (186, [.ref 27, .int x1, .int x2, .int x3, .int x4, .int x5, .int x6, u7, u8, u9], [.int x3, .int x6], hp E w)) hM_118 2 rfl ?_
  refine Ev.icF hM_118 rfl (cI_gtF c1) ?_
  refine Ev.run (c' := (192, [.ref 27, .int x1, .int x2, .int x3, .int x4, .int x5, .int x6, .int (0 : Int32), u8, u9], [], hp E w)) hM_118 2 rfl ?_
  exact e
theorem p118_183_b {E : Nat × (Nat → Int32)} {w : Wd} {d : Nat} {x1 x2 x3 x4 x5 x6 : Int32} {u7 u8 u9 : Value} {o : Ou} {y5 : Int32} (c1 : x3 < x6) (q5 : (x5 + (1 : Int32)) = y5) (e : Ev d 118 (171, [.ref 27, .int x1, .int x2, .int x3, .int x4, .int y5, .int x6, u7, u8, u9], [], hp E w) o) : Ev d 118 (183, [.ref 27, .int x1, .int x2, .int x3, .int x4, .int x5, .int x6, u7, u8, u9], [], hp E w) o := by
  subst q5
  refine Ev.run (c' := (186, [.ref 27, .int x1, .int x2, .int x3, .int x4, .int x5, .int x6, u7, u8, u9], [.int x3, .int x6], hp E w)) hM_118 2 rfl ?_
  refine Ev.icT hM_118 rfl (cI_gtT c1) ?_
  refine Ev.run (c' := (171, [.ref 27, .int x1, .int x2, .int x3, .int x4, .int (x5 + (1 : Int32)), .int x6, u7, u8, u9], [], hp E w)) hM_118 2 rfl ?_
  exact e
theorem p118_192_a {E : Nat × (Nat → Int32)} {w : Wd} {d : Nat} {x1 x2 x3 x4 x5 x6 x7 : Int32} {u8 u9 : Value} {o : Ou} {j1 : Nat} {y7 : Int32} {w' : Wd} (hd : 1 ≤ d) (c1 : x7 < (gF w 9)) (g1 : ((((x5 * (10 : Int32)) + x6) * (9 : Int32)) + x7) = I j1) (b1 : j1 < 810) (c2 : (gA w 16 j1) = 0) (c3 : (0 : Int32) < (gA w 16 j1)) (q7 : (x7 + (1 : Int32)) = y7) (qw : (sA 16 (upd (gA w 16) j1 (0 : Int32)) w) = w') (e : Ev d 118 (192, [.ref 27, .int x1, .int x2, .int x3, .int (1 : Int32), .int x5, .int x6, .int y7, .int (I j1), .int (0 : Int32)], [], hp E w') o) : Ev d 118 (192, [.ref 27, .int x1, .int x2, .int x3, .int x4, .int x5, .int x6, .int x7, u8, u9], [], hp E w) o := by
  subst qw
  subst q7
  refine Ev.run (c' := (198, [.ref 27, .int x1, .int x2, .int x3, .int x4, .int x5, .int x6, .int x7, u8, u9], [.int (gF w 9), .int x7], hp E w)) hM_118 3 rfl ?_
  refine Ev.icF hM_118 rfl (cI_geF c1) ?_
  refine Ev.run (c' := (207, [.ref 27, .int x1, .int x2, .int x3, .int x4, .int x5, .int x6, .int x7, u8, u9], [.int x7, .int x6, .int x5], hp E w)) hM_118 3 rfl ?_
  refine Ev.callR hd hM_118 rfl (y := 113) (as := [.int x5, .int x6, .int x7]) (rest := []) rfl (Nat.le_of_ble_eq_true rfl) (place_spec) ?_
  refine Ev.run (c' := (218, [.ref 27, .int x1, .int x2, .int x3, .int x4, .int x5, .int x6, .int x7, .int ((((x5 * (10 : Int32)) + x6) * (9 : Int32)) + x7), u9], [.int ((((x5 * (10 : Int32)) + x6) * (9 : Int32)) + x7), .ref 34], hp E w)) hM_118 4 rfl ?_
  rw [g1]
  refine Ev.iald hM_118 rfl (a := 34) rfl (inb_I b1 (by decide)) ?_
  rw [I_clamp (Nat.lt_of_lt_of_le b1 (by decide))]
  refine Ev.run (c' := (219, [.ref 27, .int x1, .int x2, .int x3, .int x4, .int x5, .int x6, .int x7, .int (I j1), u9], [.int (gA w 16 j1)], hp E w)) hM_118 0 rfl ?_
  refine Ev.ifF hM_118 rfl (cI_neF c2) ?_
  refine Ev.run (c' := (246, [.ref 27, .int x1, .int x2, .int x3, .int x4, .int x5, .int x6, .int x7, .int (I j1), .int (0 : Int32)], [.int (I j1), .ref 34, .int (0 : Int32)], hp E w)) hM_118 7 rfl ?_
  refine Ev.iald hM_118 rfl (a := 34) rfl (inb_I b1 (by decide)) ?_
  rw [I_clamp (Nat.lt_of_lt_of_le b1 (by decide))]
  refine Ev.run (c' := (247, [.ref 27, .int x1, .int x2, .int x3, .int x4, .int x5, .int x6, .int x7, .int (I j1), .int (0 : Int32)], [.int (gA w 16 j1), .int (0 : Int32)], hp E w)) hM_118 0 rfl ?_
  refine Ev.icF hM_118 rfl (cI_geF c3) ?_
  refine Ev.run (c' := (258, [.ref 27, .int x1, .int x2, .int x3, .int x4, .int x5, .int x6, .int x7, .int (I j1), .int (0 : Int32)], [.int (0 : Int32), .int (I j1), .ref 34], hp E w)) hM_118 4 rfl ?_
  refine Ev.iast hM_118 rfl (a := 33) rfl (inb_I b1 (by decide)) (h' := hp E (sA 16 (upd (gA w 16) j1 (0 : Int32)) w)) (by rw [I_clamp (Nat.lt_of_lt_of_le b1 (by decide))]; rfl) ?_
  refine Ev.run (c' := (192, [.ref 27, .int x1, .int x2, .int x3, .int (1 : Int32), .int x5, .int x6, .int (x7 + (1 : Int32)), .int (I j1), .int (0 : Int32)], [], hp E (sA 16 (upd (gA w 16) j1 (0 : Int32)) w))) hM_118 4 rfl ?_
  exact e
theorem p118_192_b {E : Nat × (Nat → Int32)} {w : Wd} {d : Nat} {x1 x2 x3 x4 x5 x6 x7 : Int32} {u8 u9 : Value} {o : Ou} {j1 : Nat} {y7 : Int32} (hd : 1 ≤ d) (c1 : x7 < (gF w 9)) (g1 : ((((x5 * (10 : Int32)) + x6) * (9 : Int32)) + x7) = I j1) (b1 : j1 < 810) (c2 : (gA w 16 j1) = 0) (c3 : ¬ (0 : Int32) < (gA w 16 j1)) (q7 : (x7 + (1 : Int32)) = y7) (e : Ev d 118 (192, [.ref 27, .int x1, .int x2, .int x3, .int x4, .int x5, .int x6, .int y7, .int (I j1), .int (0 : Int32)], [], hp E w) o) : Ev d 118 (192, [.ref 27, .int x1, .int x2, .int x3, .int x4, .int x5, .int x6, .int x7, u8, u9], [], hp E w) o := by
  subst q7
  refine Ev.run (c' := (198, [.ref 27, .int x1, .int x2, .int x3, .int x4, .int x5, .int x6, .int x7, u8, u9], [.int (gF w 9), .int x7], hp E w)) hM_118 3 rfl ?_
  refine Ev.icF hM_118 rfl (cI_geF c1) ?_
  refine Ev.run (c' := (207, [.ref 27, .int x1, .int x2, .int x3, .int x4, .int x5, .int x6, .int x7, u8, u9], [.int x7, .int x6, .int x5], hp E w)) hM_118 3 rfl ?_
  refine Ev.callR hd hM_118 rfl (y := 113) (as := [.int x5, .int x6, .int x7]) (rest := []) rfl (Nat.le_of_ble_eq_true rfl) (place_spec) ?_
  refine Ev.run (c' := (218, [.ref 27, .int x1, .int x2, .int x3, .int x4, .int x5, .int x6, .int x7, .int ((((x5 * (10 : Int32)) + x6) * (9 : Int32)) + x7), u9], [.int ((((x5 * (10 : Int32)) + x6) * (9 : Int32)) + x7), .ref 34], hp E w)) hM_118 4 rfl ?_
  rw [g1]
  refine Ev.iald hM_118 rfl (a := 34) rfl (inb_I b1 (by decide)) ?_
  rw [I_clamp (Nat.lt_of_lt_of_le b1 (by decide))]
  refine Ev.run (c' := (219, [.ref 27, .int x1, .int x2, .int x3, .int x4, .int x5, .int x6, .int x7, .int (I j1), u9], [.int (gA w 16 j1)], hp E w)) hM_118 0 rfl ?_
  refine Ev.ifF hM_118 rfl (cI_neF c2) ?_
  refine Ev.run (c' := (246, [.ref 27, .int x1, .int x2, .int x3, .int x4, .int x5, .int x6, .int x7, .int (I j1), .int (0 : Int32)], [.int (I j1), .ref 34, .int (0 : Int32)], hp E w)) hM_118 7 rfl ?_
  refine Ev.iald hM_118 rfl (a := 34) rfl (inb_I b1 (by decide)) ?_
  rw [I_clamp (Nat.lt_of_lt_of_le b1 (by decide))]
  refine Ev.run (c' := (247, [.ref 27, .int x1, .int x2, .int x3, .int x4, .int x5, .int x6, .int x7, .int (I j1), .int (0 : Int32)], [.int (gA w 16 j1), .int (0 : Int32)], hp E w)) hM_118 0 rfl ?_
  refine Ev.icT hM_118 rfl (cI_geT c3) ?_
  refine Ev.run (c' := (192, [.ref 27, .int x1, .int x2, .int x3, .int x4, .int x5, .int x6, .int (x7 + (1 : Int32)), .int (I j1), .int (0 : Int32)], [], hp E w)) hM_118 2 rfl ?_
  exact e
theorem p118_192_c {E : Nat × (Nat → Int32)} {w : Wd} {d : Nat} {x1 x2 x3 x4 x5 x6 x7 : Int32} {u8 u9 : Value} {o : Ou} {j1 : Nat} {w1 : Wd} {v1 : Int32} {y7 : Int32} {w' : Wd} (hd : 1 ≤ d) (c1 : x7 < (gF w 9)) (g1 : ((((x5 * (10 : Int32)) + x6) * (9 : Int32)) + x7) = I j1) (b1 : j1 < 810) (c2 : ¬ (gA w 16 j1) = 0) (h1 : Ev (d - 1) 116 (ent0 116 [.ref 27, .int x5, .int x6, .int x7] (hp E w)) (.inl (some (.int v1)), hp E w1)) (c3 : v1 < (gA w1 16 j1)) (q7 : (x7 + (1 : Int32)) = y7) (qw : (sA 16 (upd (gA w1 16) j1 v1) w1) = w') (e : Ev d 118 (192, [.ref 27, .int x1, .int x2, .int x3, .int (1 : Int32), .int x5, .int x6, .int y7, .int (I j1), .int v1], [], hp E w') o) : Ev d 118 (192, [.ref 27, .int x1, .int x2, .int x3, .int x4, .int x5, .int x6, .int x7, u8, u9], [], hp E w) o := by
  subst qw
  subst q7
  refine Ev.run (c' := (198, [.ref 27, .int x1, .int x2, .int x3, .int x4, .int x5, .int x6, .int x7, u8, u9], [.int (gF w 9), .int x7], hp E w)) hM_118 3 rfl ?_
  refine Ev.icF hM_118 rfl (cI_geF c1) ?_
  refine Ev.run (c' := (207, [.ref 27, .int x1, .int x2, .int x3, .int x4, .int x5, .int x6, .int x7, u8, u9], [.int x7, .int x6, .int x5], hp E w)) hM_118 3 rfl ?_
  refine Ev.callR hd hM_118 rfl (y := 113) (as := [.int x5, .int x6, .int x7]) (rest := []) rfl (Nat.le_of_ble_eq_true rfl) (place_spec) ?_
  refine Ev.run (c' := (218, [.ref 27, .int x1, .int x2, .int x3, .int x4, .int x5, .int x6, .int x7, .int ((((x5 * (10 : Int32)) + x6) * (9 : Int32)) + x7), u9], [.int ((((x5 * (10 : Int32)) + x6) * (9 : Int32)) + x7), .ref 34], hp E w)) hM_118 4 rfl ?_
  rw [g1]
  refine Ev.iald hM_118 rfl (a := 34) rfl (inb_I b1 (by decide)) ?_
  rw [I_clamp (Nat.lt_of_lt_of_le b1 (by decide))]
  refine Ev.run (c' := (219, [.ref 27, .int x1, .int x2, .int x3, .int x4, .int x5, .int x6, .int x7, .int (I j1), u9], [.int (gA w 16 j1)], hp E w)) hM_118 0 rfl ?_
  refine Ev.ifT hM_118 rfl (cI_neT c2) ?_
  refine Ev.run (c' := (233, [.ref 27, .int x1, .int x2, .int x3, .int x4, .int x5, .int x6, .int x7, .int (I j1), u9], [.int x7, .int x6, .int x5, .ref 27], hp E w)) hM_118 4 rfl ?_
  refine Ev.callR hd hM_118 rfl (y := 116) (as := [.ref 27, .int x5, .int x6, .int x7]) (rest := []) rfl (Nat.le_of_ble_eq_true rfl) h1 ?_
  refine Ev.run (c' := (246, [.ref 27, .int x1, .int x2, .int x3, .int x4, .int x5, .int x6, .int x7, .int (I j1), .int v1], [.int (I j1), .ref 34, .int v1], hp E w1)) hM_118 5 rfl ?_
  refine Ev.iald hM_118 rfl (a := 34) rfl (inb_I b1 (by decide)) ?_
  rw [I_clamp (Nat.lt_of_lt_of_le b1 (by decide))]
  refine Ev.run (c' := (247, [.ref 27, .int x1, .int x2, .int x3, .int x4, .int x5, .int x6, .int x7, .int (I j1), .int v1], [.int (gA w1 16 j1), .int v1], hp E w1)) hM_118 0 rfl ?_
  refine Ev.icF hM_118 rfl (cI_geF c3) ?_
  refine Ev.run (c' := (258, [.ref 27, .int x1, .int x2, .int x3, .int x4, .int x5, .int x6, .int x7, .int (I j1), .int v1], [.int v1, .int (I j1), .ref 34], hp E w1)) hM_118 4 rfl ?_
  refine Ev.iast hM_118 rfl (a := 33) rfl (inb_I b1 (by decide)) (h' := hp E (sA 16 (upd (gA w1 16) j1 v1) w1)) (by rw [I_clamp (Nat.lt_of_lt_of_le b1 (by decide))]; rfl) ?_
  refine Ev.run (c' := (192, [.ref 27, .int x1, .int x2, .int x3, .int (1 : Int32), .int x5, .int x6, .int (x7 + (1 : Int32)), .int (I j1), .int v1], [], hp E (sA 16 (upd (gA w1 16) j1 v1) w1))) hM_118 4 rfl ?_
  exact e
theorem p118_192_d {E : Nat × (Nat → Int32)} {w : Wd} {d : Nat} {x1 x2 x3 x4 x5 x6 x7 : Int32} {u8 u9 : Value} {o : Ou} {j1 : Nat} {w1 : Wd} {v1 : Int32} {y7 : Int32} (hd : 1 ≤ d) (c1 : x7 < (gF w 9)) (g1 : ((((x5 * (10 : Int32)) + x6) * (9 : Int32)) + x7) = I j1) (b1 : j1 < 810) (c2 : ¬ (gA w 16 j1) = 0) (h1 : Ev (d - 1) 116 (ent0 116 [.ref 27, .int x5, .int x6, .int x7] (hp E w)) (.inl (some (.int v1)), hp E w1)) (c3 : ¬ v1 < (gA w1 16 j1)) (q7 : (x7 + (1 : Int32)) = y7) (e : Ev d 118 (192, [.ref 27, .int x1, .int x2, .int x3, .int x4, .int x5, .int x6, .int y7, .int (I j1), .int v1], [], hp E w1) o) : Ev d 118 (192, [.ref 27, .int x1, .int x2, .int x3, .int x4, .int x5, .int x6, .int x7, u8, u9], [], hp E w) o := by
  subst q7
  refine Ev.run (c' := (198, [.ref 27, .int x1, .int x2, .int x3, .int x4, .int x5, .int x6, .int x7, u8, u9], [.int (gF w 9), .int x7], hp E w)) hM_118 3 rfl ?_
  refine Ev.icF hM_118 rfl (cI_geF c1) ?_
  refine Ev.run (c' := (207, [.ref 27, .int x1, .int x2, .int x3, .int x4, .int x5, .int x6, .int x7, u8, u9], [.int x7, .int x6, .int x5], hp E w)) hM_118 3 rfl ?_
  refine Ev.callR hd hM_118 rfl (y := 113) (as := [.int x5, .int x6, .int x7]) (rest := []) rfl (Nat.le_of_ble_eq_true rfl) (place_spec) ?_
  refine Ev.run (c' := (218, [.ref 27, .int x1, .int x2, .int x3, .int x4, .int x5, .int x6, .int x7, .int ((((x5 * (10 : Int32)) + x6) * (9 : Int32)) + x7), u9], [.int ((((x5 * (10 : Int32)) + x6) * (9 : Int32)) + x7), .ref 34], hp E w)) hM_118 4 rfl ?_
  rw [g1]
  refine Ev.iald hM_118 rfl (a := 34) rfl (inb_I b1 (by decide)) ?_
  rw [I_clamp (Nat.lt_of_lt_of_le b1 (by decide))]
  refine Ev.run (c' := (219, [.ref 27, .int x1, .int x2, .int x3, .int x4, .int x5, .int x6, .int x7, .int (I j1), u9], [.int (gA w 16 j1)], hp E w)) hM_118 0 rfl ?_
  refine Ev.ifT hM_118 rfl (cI_neT c2) ?_
  refine Ev.run (c' := (233, [.ref 27, .int x1, .int x2, .int x3, .int x4, .int x5, .int x6, .int x7, .int (I j1), u9], [.int x7, .int x6, .int x5, .ref 27], hp E w)) hM_118 4 rfl ?_
  refine Ev.callR hd hM_118 rfl (y := 116) (as := [.ref 27, .int x5, .int x6, .int x7]) (rest := []) rfl (Nat.le_of_ble_eq_true rfl) h1 ?_
  refine Ev.run (c' := (246, [.ref 27, .int x1, .int x2, .int x3, .int x4, .int x5, .int x6, .int x7, .int (I j1), .int v1], [.int (I j1), .ref 34, .int v1], hp E w1)) hM_118 5 rfl ?_
  refine Ev.iald hM_118 rfl (a := 34) rfl (inb_I b1 (by decide)) ?_
  rw [I_clamp (Nat.lt_of_lt_of_le b1 (by decide))]
  refine Ev.run (c' := (247, [.ref 27, .int x1, .int x2, .int x3, .int x4, .int x5, .int x6, .int x7, .int (I j1), .int v1], [.int (gA w1 16 j1), .int v1], hp E w1)) hM_118 0 rfl ?_
  refine Ev.icT hM_118 rfl (cI_geT c3) ?_
  refine Ev.run (c' := (192, [.ref 27, .int x1, .int x2, .int x3, .int x4, .int x5, .int x6, .int (x7 + (1 : Int32)), .int (I j1), .int v1], [], hp E w1)) hM_118 2 rfl ?_
  exact e
theorem p118_192_e {E : Nat × (Nat → Int32)} {w : Wd} {d : Nat} {x1 x2 x3 x4 x5 x6 x7 : Int32} {u8 u9 : Value} {o : Ou} {y6 : Int32} (c1 : ¬ x7 < (gF w 9)) (q6 : (x6 + (1 : Int32)) = y6) (e : Ev d 118 (183, [.ref 27, .int x1, .int x2, .int x3, .int x4, .int x5, .int y6, .int x7, u8, u9], [], hp E w) o) : Ev d 118 (192, [.ref 27, .int x1, .int x2, .int x3, .int x4, .int x5, .int x6, .int x7, u8, u9], [], hp E w) o := by
  subst q6
  refine Ev.run (c' := (198, [.ref 27, .int x1, .int x2, .int x3, .int x4, .int x5, .int x6, .int x7, u8, u9], [.int (gF w 9), .int x7], hp E w)) hM_118 3 rfl ?_
  refine Ev.icT hM_118 rfl (cI_geT c1) ?_
  refine Ev.run (c' := (183, [.ref 27, .int x1, .int x2, .int x3, .int x4, .int x5, .int (x6 + (1 : Int32)), .int x7, u8, u9], [], hp E w)) hM_118 2 rfl ?_
  exact e
theorem p118_283_a {E : Nat × (Nat → Int32)} {w : Wd} {d : Nat} {x1 x2 x3 x4 x5 : Int32} {u6 u7 u8 u9 : Value} {o : Ou}  (c1 : x5 < (gF w 9)) (e : Ev d 118 (295, [.ref 27, .int x1, .int x2, .int x3, .int x4, .int x5, .int x2, u7, u8, u9], [], hp E w) o) : Ev d 118 (283, [.ref 27, .int x1, .int x2, .int x3, .int x4, .int x5, u6, u7, u8, u9], [], hp E w) o := by
  refine Ev.run (c' := (289, [.ref 27, .int x1, .int x2, .int x3, .int x4, .int x5, u6, u7, u8, u9], [.int (gF w 9), .int x5], hp E w)) hM_118 3 rfl ?_
  refine Ev.icF hM_118 rfl (cI_geF c1) ?_
  refine Ev.run (c' := (295, [.ref 27, .int x1, .int x2, .int x3, .int x4, .int x5, .int x2, u7, u8, u9], [], hp E w)) hM_118 2 rfl ?_
  exact e
theorem p118_283_b {E : Nat × (Nat → Int32)} {w : Wd} {d : Nat} {x1 x2 x3 x4 x5 : Int32} {u6 u7 u8 u9 : Value} {o : Ou}  (c1 : ¬ x5 < (gF w 9)) (e : Ev d 118 (160, [.ref 27, .int x1, .int x2, .int x3, .int x4, .int x5, u6, u7, u8, u9], [], hp E w) o) : Ev d 118 (283, [.ref 27, .int x1, .int x2, .int x3, .int x4, .int x5, u6, u7, u8, u9], [], hp E w) o := by
  refine Ev.run (c' := (289, [.ref 27, .int x1, .int x2, .int x3, .int x4, .int x5, u6, u7, u8, u9], [.int (gF w 9), .int x5], hp E w)) hM_118 3 rfl ?_
  refine Ev.icT hM_118 rfl (cI_geT c1) ?_
  refine Ev.run (c' := (160, [.ref 27, .int x1, .int x2, .int x3, .int x4, .int x5, u6, u7, u8, u9], [], hp E w)) hM_118 1 rfl ?_
  exact e
theorem p118_295_a {E : Nat × (Nat → Int32)} {w : Wd} {d : Nat} {x1 x2 x3 x4 x5 x6 : Int32} {u7 u8 u9 : Value} {o : Ou}  (c1 : ¬ x3 < x6) (e : Ev d 118 (304, [.ref 27, .int x1, .int x2, .int x3, .int x4, .int x5, .int x6, .int (0 : Int32), u8, u9], [], hp E w) o) : Ev d 118 (295, [.ref 27, .int x1, .int x2, .int x3, .int x4, .int x5, .int x6, u7, u8, u9], [], hp E w) o := by
  refine Ev.run (c' := (298, [.ref 27, .int x1, .int x2, .int x3, .int x4, .int x5, .int x6, u7, u8, u9], [.int x3, .int x6], hp E w)) hM_118 2 rfl ?_
  refine Ev.icF hM_118 rfl (cI_gtF c1) ?_
  refine Ev.run (c' := (304, [.ref 27, .int x1, .int x2, .int x3, .int x4, .int x5, .int x6, .int (0 : Int32), u8, u9], [], hp E w)) hM_118 2 rfl ?_
  exact e
theorem p118_295_b {E : Nat × (Nat → Int32)} {w : Wd} {d : Nat} {x1 x2 x3 x4 x5 x6 : Int32} {u7 u8 u9 : Value} {o : Ou} {y5 : Int32} (c1 : x3 < x6) (q5 : (x5 + (1 : Int32)) = y5) (e : Ev d 118 (283, [.ref 27, .int x1, .int x2, .int x3, .int x4, .int y5, .int x6, u7, u8, u9], [], hp E w) o) : Ev d 118 (295, [.ref 27, .int x1, .int x2, .int x3, .int x4, .int x5, .int x6, u7, u8, u9], [], hp E w) o := by
  subst q5
  refine Ev.run (c' := (298, [.ref 27, .int x1, .int x2, .int x3, .int x4, .int x5, .int x6, u7, u8, u9], [.int x3, .int x6], hp E w)) hM_118 2 rfl ?_
  refine Ev.icT hM_118 rfl (cI_gtT c1) ?_
  refine Ev.run (c' := (283, [.ref 27, .int x1, .int x2, .int x3, .int x4, .int (x5 + (1 : Int32)), .int x6, u7, u8, u9], [], hp E w)) hM_118 2 rfl ?_
  exact e
theorem p118_304_a {E : Nat × (Nat → Int32)} {w : Wd} {d : Nat} {x1 x2 x3 x4 x5 x6 x7 : Int32} {u8 u9 : Value} {o : Ou} {w1 : Wd} {v1 : Int32} {j1 : Nat} {y7 : Int32} {w' : Wd} (hd : 1 ≤ d) (c1 : x7 < (gF w 9)) (h1 : Ev (d - 1) 117 (ent0 117 [.ref 27, .int x5, .int x6, .int x7] (hp E w)) (.inl (some (.int v1)), hp E w1)) (c2 : v1 < (99 : Int32)) (g1 : ((((x5 * (10 : Int32)) + x6) * (9 : Int32)) + x7) = I j1) (b1 : j1 < 810) (c3 : (v1 + (1 : Int32)) < (gA w1 15 j1)) (q7 : (x7 + (1 : Int32)) = y7) (qw : (sA 15 (upd (gA w1 15) j1 (v1 + (1 : Int32))) w1) = w') (e : Ev d 118 (304, [.ref 27, .int x1, .int x2, .int x3, .int (1 : Int32), .int x5, .int x6, .int y7, .int (I j1), .int v1], [], hp E w') o) : Ev d 118 (304, [.ref 27, .int x1, .int x2, .int x3, .int x4, .int x5, .int x6, .int x7, u8, u9], [], hp E w) o := by
  subst qw
  subst q7
  refine Ev.run (c' := (310, [.ref 27, .int x1, .int x2, .int x3, .int x4, .int x5, .int x6, .int x7, u8, u9], [.int (gF w 9), .int x7], hp E w)) hM_118 3 rfl ?_
  refine Ev.icF hM_118 rfl (cI_geF c1) ?_
  refine Ev.run (c' := (319, [.ref 27, .int x1, .int x2, .int x3, .int x4, .int x5, .int x6, .int x7, u8, u9], [.int x7, .int x6, .int x5], hp E w)) hM_118 3 rfl ?_
  refine Ev.callR hd hM_118 rfl (y := 113) (as := [.int x5, .int x6, .int x7]) (rest := []) rfl (Nat.le_of_ble_eq_true rfl) (place_spec) ?_
  refine Ev.run (c' := (331, [.ref 27, .int x1, .int x2, .int x3, .int x4, .int x5, .int x6, .int x7, .int ((((x5 * (10 : Int32)) + x6) * (9 : Int32)) + x7), u9], [.int x7, .int x6, .int x5, .ref 27], hp E w)) hM_118 5 rfl ?_
  refine Ev.callR hd hM_118 rfl (y := 117) (as := [.ref 27, .int x5, .int x6, .int x7]) (rest := []) rfl (Nat.le_of_ble_eq_true rfl) h1 ?_
  refine Ev.run (c' := (340, [.ref 27, .int x1, .int x2, .int x3, .int x4, .int x5, .int x6, .int x7, .int ((((x5 * (10 : Int32)) + x6) * (9 : Int32)) + x7), .int v1], [.int (99 : Int32), .int v1], hp E w1)) hM_118 3 rfl ?_
  refine Ev.icF hM_118 rfl (cI_geF c2) ?_
  refine Ev.run (c' := (353, [.ref 27, .int x1, .int x2, .int x3, .int x4, .int x5, .int x6, .int x7, .int ((((x5 * (10 : Int32)) + x6) * (9 : Int32)) + x7), .int v1], [.int ((((x5 * (10 : Int32)) + x6) * (9 : Int32)) + x7), .ref 33, .int (v1 + (1 : Int32))], hp E w1)) hM_118 6 rfl ?_
  rw [g1]
  refine Ev.iald hM_118 rfl (a := 33) rfl (inb_I b1 (by decide)) ?_
  rw [I_clamp (Nat.lt_of_lt_of_le b1 (by decide))]
  refine Ev.run (c' := (354, [.ref 27, .int x1, .int x2, .int x3, .int x4, .int x5, .int x6, .int x7, .int (I j1), .int v1], [.int (gA w1 15 j1), .int (v1 + (1 : Int32))], hp E w1)) hM_118 0 rfl ?_
  refine Ev.icF hM_118 rfl (cI_geF c3) ?_
  refine Ev.run (c' := (367, [.ref 27, .int x1, .int x2, .int x3, .int x4, .int x5, .int x6, .int x7, .int (I j1), .int v1], [.int (v1 + (1 : Int32)), .int (I j1), .ref 33], hp E w1)) hM_118 6 rfl ?_
  refine Ev.iast hM_118 rfl (a := 32) rfl (inb_I b1 (by decide)) (h' := hp E (sA 15 (upd (gA w1 15) j1 (v1 + (1 : Int32))) w1)) (by rw [I_clamp (Nat.lt_of_lt_of_le b1 (by decide))]; rfl) ?_
  refine Ev.run (c' := (304, [.ref 27, .int x1, .int x2, .int x3, .int (1 : Int32), .int x5, .int x6, .int (x7 + (1 : Int32)), .int (I j1), .int v1], [], hp E (sA 15 (upd (gA w1 15) j1 (v1 + (1 : Int32))) w1))) hM_118 4 rfl ?_
  exact e
theorem p118_304_b {E : Nat × (Nat → Int32)} {w : Wd} {d : Nat} {x1 x2 x3 x4 x5 x6 x7 : Int32} {u8 u9 : Value} {o : Ou} {w1 : Wd} {v1 : Int32} {j1 : Nat} {y7 : Int32} (hd : 1 ≤ d) (c1 : x7 < (gF w 9)) (h1 : Ev (d - 1) 117 (ent0 117 [.ref 27, .int x5, .int x6, .int x7] (hp E w)) (.inl (some (.int v1)), hp E w1)) (c2 : v1 < (99 : Int32)) (g1 : ((((x5 * (10 : Int32)) + x6) * (9 : Int32)) + x7) = I j1) (b1 : j1 < 810) (c3 : ¬ (v1 + (1 : Int32)) < (gA w1 15 j1)) (q7 : (x7 + (1 : Int32)) = y7) (e : Ev d 118 (304, [.ref 27, .int x1, .int x2, .int x3, .int x4, .int x5, .int x6, .int y7, .int (I j1), .int v1], [], hp E w1) o) : Ev d 118 (304, [.ref 27, .int x1, .int x2, .int x3, .int x4, .int x5, .int x6, .int x7, u8, u9], [], hp E w) o := by
  subst q7
  refine Ev.run (c' := (310, [.ref 27, .int x1, .int x2, .int x3, .int x4, .int x5, .int x6, .int x7, u8, u9], [.int (gF w 9), .int x7], hp E w)) hM_118 3 rfl ?_
  refine Ev.icF hM_118 rfl (cI_geF c1) ?_
  refine Ev.run (c' := (319, [.ref 27, .int x1, .int x2, .int x3, .int x4, .int x5, .int x6, .int x7, u8, u9], [.int x7, .int x6, .int x5], hp E w)) hM_118 3 rfl ?_
  refine Ev.callR hd hM_118 rfl (y := 113) (as := [.int x5, .int x6, .int x7]) (rest := []) rfl (Nat.le_of_ble_eq_true rfl) (place_spec) ?_
  refine Ev.run (c' := (331, [.ref 27, .int x1, .int x2, .int x3, .int x4, .int x5, .int x6, .int x7, .int ((((x5 * (10 : Int32)) + x6) * (9 : Int32)) + x7), u9], [.int x7, .int x6, .int x5, .ref 27], hp E w)) hM_118 5 rfl ?_
  refine Ev.callR hd hM_118 rfl (y := 117) (as := [.ref 27, .int x5, .int x6, .int x7]) (rest := []) rfl (Nat.le_of_ble_eq_true rfl) h1 ?_
  refine Ev.run (c' := (340, [.ref 27, .int x1, .int x2, .int x3, .int x4, .int x5, .int x6, .int x7, .int ((((x5 * (10 : Int32)) + x6) * (9 : Int32)) + x7), .int v1], [.int (99 : Int32), .int v1], hp E w1)) hM_118 3 rfl ?_
  refine Ev.icF hM_118 rfl (cI_geF c2) ?_
  refine Ev.run (c' := (353, [.ref 27, .int x1, .int x2, .int x3, .int x4, .int x5, .int x6, .int x7, .int ((((x5 * (10 : Int32)) + x6) * (9 : Int32)) + x7), .int v1], [.int ((((x5 * (10 : Int32)) + x6) * (9 : Int32)) + x7), .ref 33, .int (v1 + (1 : Int32))], hp E w1)) hM_118 6 rfl ?_
  rw [g1]
  refine Ev.iald hM_118 rfl (a := 33) rfl (inb_I b1 (by decide)) ?_
  rw [I_clamp (Nat.lt_of_lt_of_le b1 (by decide))]
  refine Ev.run (c' := (354, [.ref 27, .int x1, .int x2, .int x3, .int x4, .int x5, .int x6, .int x7, .int (I j1), .int v1], [.int (gA w1 15 j1), .int (v1 + (1 : Int32))], hp E w1)) hM_118 0 rfl ?_
  refine Ev.icT hM_118 rfl (cI_geT c3) ?_
  refine Ev.run (c' := (304, [.ref 27, .int x1, .int x2, .int x3, .int x4, .int x5, .int x6, .int (x7 + (1 : Int32)), .int (I j1), .int v1], [], hp E w1)) hM_118 2 rfl ?_
  exact e
theorem p118_304_c {E : Nat × (Nat → Int32)} {w : Wd} {d : Nat} {x1 x2 x3 x4 x5 x6 x7 : Int32} {u8 u9 : Value} {o : Ou} {w1 : Wd} {v1 : Int32} {y7 : Int32} (hd : 1 ≤ d) (c1 : x7 < (gF w 9)) (h1 : Ev (d - 1) 117 (ent0 117 [.ref 27, .int x5, .int x6, .int x7] (hp E w)) (.inl (some (.int v1)), hp E w1)) (c2 : ¬ v1 < (99 : Int32)) (q7 : (x7 + (1 : Int32)) = y7) (e : Ev d 118 (304, [.ref 27, .int x1, .int x2, .int x3, .int x4, .int x5, .int x6, .int y7, .int ((((x5 * (10 : Int32)) + x6) * (9 : Int32)) + x7), .int v1], [], hp E w1) o) : Ev d 118 (304, [.ref 27, .int x1, .int x2, .int x3, .int x4, .int x5, .int x6, .int x7, u8, u9], [], hp E w) o := by
  subst q7
  refine Ev.run (c' := (310, [.ref 27, .int x1, .int x2, .int x3, .int x4, .int x5, .int x6, .int x7, u8, u9], [.int (gF w 9), .int x7], hp E w)) hM_118 3 rfl ?_
  refine Ev.icF hM_118 rfl (cI_geF c1) ?_
  refine Ev.run (c' := (319, [.ref 27, .int x1, .int x2, .int x3, .int x4, .int x5, .int x6, .int x7, u8, u9], [.int x7, .int x6, .int x5], hp E w)) hM_118 3 rfl ?_
  refine Ev.callR hd hM_118 rfl (y := 113) (as := [.int x5, .int x6, .int x7]) (rest := []) rfl (Nat.le_of_ble_eq_true rfl) (place_spec) ?_
  refine Ev.run (c' := (331, [.ref 27, .int x1, .int x2, .int x3, .int x4, .int x5, .int x6, .int x7, .int ((((x5 * (10 : Int32)) + x6) * (9 : Int32)) + x7), u9], [.int x7, .int x6, .int x5, .ref 27], hp E w)) hM_118 5 rfl ?_
  refine Ev.callR hd hM_118 rfl (y := 117) (as := [.ref 27, .int x5, .int x6, .int x7]) (rest := []) rfl (Nat.le_of_ble_eq_true rfl) h1 ?_
  refine Ev.run (c' := (340, [.ref 27, .int x1, .int x2, .int x3, .int x4, .int x5, .int x6, .int x7, .int ((((x5 * (10 : Int32)) + x6) * (9 : Int32)) + x7), .int v1], [.int (99 : Int32), .int v1], hp E w1)) hM_118 3 rfl ?_
  refine Ev.icT hM_118 rfl (cI_geT c2) ?_
  refine Ev.run (c' := (304, [.ref 27, .int x1, .int x2, .int x3, .int x4, .int x5, .int x6, .int (x7 + (1 : Int32)), .int ((((x5 * (10 : Int32)) + x6) * (9 : Int32)) + x7), .int v1], [], hp E w1)) hM_118 2 rfl ?_
  exact e
theorem p118_304_d {E : Nat × (Nat → Int32)} {w : Wd} {d : Nat} {x1 x2 x3 x4 x5 x6 x7 : Int32} {u8 u9 : Value} {o : Ou} {y6 : Int32} (c1 : ¬ x7 < (gF w 9)) (q6 : (x6 + (1 : Int32)) = y6) (e : Ev d 118 (295, [.ref 27, .int x1, .int x2, .int x3, .int x4, .int x5, .int y6, .int x7, u8, u9], [], hp E w) o) : Ev d 118 (304, [.ref 27, .int x1, .int x2, .int x3, .int x4, .int x5, .int x6, .int x7, u8, u9], [], hp E w) o := by
  subst q6
  refine Ev.run (c' := (310, [.ref 27, .int x1, .int x2, .int x3, .int x4, .int x5, .int x6, .int x7, u8, u9], [.int (gF w 9), .int x7], hp E w)) hM_118 3 rfl ?_
  refine Ev.icT hM_118 rfl (cI_geT c1) ?_
  refine Ev.run (c' := (295, [.ref 27, .int x1, .int x2, .int x3, .int x4, .int x5, .int (x6 + (1 : Int32)), .int x7, u8, u9], [], hp E w)) hM_118 2 rfl ?_
  exact e
theorem hM_119 : mAt 119 = some km_X8_areRooms := rfl
theorem p119_e_a {E : Nat × (Nat → Int32)} {w : Wd} {d : Nat} {x1 x2 x3 : Int32} {w1 : Wd} {v1 : Int32} {w2 : Wd} {v2 : Int32} {w3 : Wd} {v3 : Int32} (hd : 1 ≤ d) (h1 : Ev (d - 1) 98 (ent0 98 [.ref 27, .int x1] (hp E w)) (.inl (some (.int v1)), hp E w1)) (c1 : ¬ v1 = 0) (c2 : ¬ x2 = (-1 : Int32)) (h2 : Ev (d - 1) 98 (ent0 98 [.ref 27, .int x2] (hp E w1)) (.inl (some (.int v2)), hp E w2)) (c3 : ¬ v2 = 0) (h3 : Ev (d - 1) 98 (ent0 98 [.ref 27, .int x3] (hp E w2)) (.inl (some (.int v3)), hp E w3)) (c4 : ¬ v3 = 0) : Ev d 119 (ent0 119 [.ref 27, .int x1, .int x2, .int x3] (hp E w)) (.inl (some (.int (1 : Int32))), hp E w3) := by
  refine Ev.run (c' := (2, [.ref 27, .int x1, .int x2, .int x3], [.int x1, .ref 27], hp E w)) hM_119 2 rfl ?_
  refine Ev.callR hd hM_119 rfl (y := 98) (as := [.ref 27, .int x1]) (rest := []) rfl (Nat.le_of_ble_eq_true rfl) h1 ?_
  refine Ev.run (c' := (5, [.ref 27, .int x1, .int x2, .int x3], [.int v1], hp E w1)) hM_119 0 rfl ?_
  refine Ev.ifF hM_119 rfl (cI_eqF c1) ?_
  refine Ev.run (c' := (10, [.ref 27, .int x1, .int x2, .int x3], [.int (-1 : Int32), .int x2], hp E w1)) hM_119 2 rfl ?_
  refine Ev.icF hM_119 rfl (cI_eqF c2) ?_
  refine Ev.run (c' := (15, [.ref 27, .int x1, .int x2, .int x3], [.int x2, .ref 27], hp E w1)) hM_119 2 rfl ?_
  refine Ev.callR hd hM_119 rfl (y := 98) (as := [.ref 27, .int x2]) (rest := []) rfl (Nat.le_of_ble_eq_true rfl) h2 ?_
  refine Ev.run (c' := (18, [.ref 27, .int x1, .int x2, .int x3], [.int v2], hp E w2)) hM_119 0 rfl ?_
  refine Ev.ifF hM_119 rfl (cI_eqF c3) ?_
  refine Ev.run (c' := (23, [.ref 27, .int x1, .int x2, .int x3], [.int x3, .ref 27], hp E w2)) hM_119 2 rfl ?_
  refine Ev.callR hd hM_119 rfl (y := 98) (as := [.ref 27, .int x3]) (rest := []) rfl (Nat.le_of_ble_eq_true rfl) h3 ?_
  refine Ev.run (c' := (26, [.ref 27, .int x1, .int x2, .int x3], [.int v3], hp E w3)) hM_119 0 rfl ?_
  refine Ev.ifF hM_119 rfl (cI_eqF c4) ?_
  refine Ev.run (c' := (34, [.ref 27, .int x1, .int x2, .int x3], [.int (1 : Int32)], hp E w3)) hM_119 2 rfl ?_
  exact Ev.fin hM_119 rfl rfl
theorem p119_e_b {E : Nat × (Nat → Int32)} {w : Wd} {d : Nat} {x1 x2 x3 : Int32} {w1 : Wd} {v1 : Int32} {w2 : Wd} {v2 : Int32} {w3 : Wd} {v3 : Int32} (hd : 1 ≤ d) (h1 : Ev (d - 1) 98 (ent0 98 [.ref 27, .int x1] (hp E w)) (.inl (some (.int v1)), hp E w1)) (c1 : ¬ v1 = 0) (c2 : ¬ x2 = (-1 : Int32)) (h2 : Ev (d - 1) 98 (ent0 98 [.ref 27, .int x2] (hp E w1)) (.inl (some (.int v2)), hp E w2)) (c3 : ¬ v2 = 0) (h3 : Ev (d - 1) 98 (ent0 98 [.ref 27, .int x3] (hp E w2)) (.inl (some (.int v3)), hp E w3)) (c4 : v3 = 0) : Ev d 119 (ent0 119 [.ref 27, .int x1, .int x2, .int x3] (hp E w)) (.inl (some (.int (0 : Int32))), hp E w3) := by
  refine Ev.run (c' := (2, [.ref 27, .int x1, .int x2, .int x3], [.int x1, .ref 27], hp E w)) hM_119 2 rfl ?_
  refine Ev.callR hd hM_119 rfl (y := 98) (as := [.ref 27, .int x1]) (rest := []) rfl (Nat.le_of_ble_eq_true rfl) h1 ?_
  refine Ev.run (c' := (5, [.ref 27, .int x1, .int x2, .int x3], [.int v1], hp E w1)) hM_119 0 rfl ?_
  refine Ev.ifF hM_119 rfl (cI_eqF c1) ?_
  refine Ev.run (c' := (10, [.ref 27, .int x1, .int x2, .int x3], [.int (-1 : Int32), .int x2], hp E w1)) hM_119 2 rfl ?_
  refine Ev.icF hM_119 rfl (cI_eqF c2) ?_
  refine Ev.run (c' := (15, [.ref 27, .int x1, .int x2, .int x3], [.int x2, .ref 27], hp E w1)) hM_119 2 rfl ?_
  refine Ev.callR hd hM_119 rfl (y := 98) (as := [.ref 27, .int x2]) (rest := []) rfl (Nat.le_of_ble_eq_true rfl) h2 ?_
  refine Ev.run (c' := (18, [.ref 27, .int x1, .int x2, .int x3], [.int v2], hp E w2)) hM_119 0 rfl ?_
  refine Ev.ifF hM_119 rfl (cI_eqF c3) ?_
  refine Ev.run (c' := (23, [.ref 27, .int x1, .int x2, .int x3], [.int x3, .ref 27], hp E w2)) hM_119 2 rfl ?_
  refine Ev.callR hd hM_119 rfl (y := 98) (as := [.ref 27, .int x3]) (rest := []) rfl (Nat.le_of_ble_eq_true rfl) h3 ?_
  refine Ev.run (c' := (26, [.ref 27, .int x1, .int x2, .int x3], [.int v3], hp E w3)) hM_119 0 rfl ?_
  refine Ev.ifT hM_119 rfl (cI_eqT c4) ?_
  refine Ev.run (c' := (34, [.ref 27, .int x1, .int x2, .int x3], [.int (0 : Int32)], hp E w3)) hM_119 1 rfl ?_
  exact Ev.fin hM_119 rfl rfl
theorem p119_e_c {E : Nat × (Nat → Int32)} {w : Wd} {d : Nat} {x1 x2 x3 : Int32} {w1 : Wd} {v1 : Int32} {w2 : Wd} {v2 : Int32} (hd : 1 ≤ d) (h1 : Ev (d - 1) 98 (ent0 98 [.ref 27, .int x1] (hp E w)) (.inl (some (.int v1)), hp E w1)) (c1 : ¬ v1 = 0) (c2 : ¬ x2 = (-1 : Int32)) (h2 : Ev (d - 1) 98 (ent0 98 [.ref 27, .int x2] (hp E w1)) (.inl (some (.int v2)), hp E w2)) (c3 : v2 = 0) : Ev d 119 (ent0 119 [.ref 27, .int x1, .int x2, .int x3] (hp E w)) (.inl (some (.int (0 : Int32))), hp E w2) := by
  refine Ev.run (c' := (2, [.ref 27, .int x1, .int x2, .int x3], [.int x1, .ref 27], hp E w)) hM_119 2 rfl ?_
  refine Ev.callR hd hM_119 rfl (y := 98) (as := [.ref 27, .int x1]) (rest := []) rfl (Nat.le_of_ble_eq_true rfl) h1 ?_
  refine Ev.run (c' := (5, [.ref 27, .int x1, .int x2, .int x3], [.int v1], hp E w1)) hM_119 0 rfl ?_
  refine Ev.ifF hM_119 rfl (cI_eqF c1) ?_
  refine Ev.run (c' := (10, [.ref 27, .int x1, .int x2, .int x3], [.int (-1 : Int32), .int x2], hp E w1)) hM_119 2 rfl ?_
  refine Ev.icF hM_119 rfl (cI_eqF c2) ?_
  refine Ev.run (c' := (15, [.ref 27, .int x1, .int x2, .int x3], [.int x2, .ref 27], hp E w1)) hM_119 2 rfl ?_
  refine Ev.callR hd hM_119 rfl (y := 98) (as := [.ref 27, .int x2]) (rest := []) rfl (Nat.le_of_ble_eq_true rfl) h2 ?_
  refine Ev.run (c' := (18, [.ref 27, .int x1, .int x2, .int x3], [.int v2], hp E w2)) hM_119 0 rfl ?_
  refine Ev.ifT hM_119 rfl (cI_eqT c3) ?_
  refine Ev.run (c' := (34, [.ref 27, .int x1, .int x2, .int x3], [.int (0 : Int32)], hp E w2)) hM_119 1 rfl ?_
  exact Ev.fin hM_119 rfl rfl
theorem p119_e_d {E : Nat × (Nat → Int32)} {w : Wd} {d : Nat} {x1 x2 x3 : Int32} {w1 : Wd} {v1 : Int32} {w2 : Wd} {v2 : Int32} (hd : 1 ≤ d) (h1 : Ev (d - 1) 98 (ent0 98 [.ref 27, .int x1] (hp E w)) (.inl (some (.int v1)), hp E w1)) (c1 : ¬ v1 = 0) (c2 : x2 = (-1 : Int32)) (h2 : Ev (d - 1) 98 (ent0 98 [.ref 27, .int x3] (hp E w1)) (.inl (some (.int v2)), hp E w2)) (c3 : ¬ v2 = 0) : Ev d 119 (ent0 119 [.ref 27, .int x1, .int x2, .int x3] (hp E w)) (.inl (some (.int (1 : Int32))), hp E w2) := by
  refine Ev.run (c' := (2, [.ref 27, .int x1, .int x2, .int x3], [.int x1, .ref 27], hp E w)) hM_119 2 rfl ?_
  refine Ev.callR hd hM_119 rfl (y := 98) (as := [.ref 27, .int x1]) (rest := []) rfl (Nat.le_of_ble_eq_true rfl) h1 ?_
  refine Ev.run (c' := (5, [.ref 27, .int x1, .int x2, .int x3], [.int v1], hp E w1)) hM_119 0 rfl ?_
  refine Ev.ifF hM_119 rfl (cI_eqF c1) ?_
  refine Ev.run (c' := (10, [.ref 27, .int x1, .int x2, .int x3], [.int (-1 : Int32), .int x2], hp E w1)) hM_119 2 rfl ?_
  refine Ev.icT hM_119 rfl (cI_eqT c2) ?_
  refine Ev.run (c' := (23, [.ref 27, .int x1, .int x2, .int x3], [.int x3, .ref 27], hp E w1)) hM_119 2 rfl ?_
  refine Ev.callR hd hM_119 rfl (y := 98) (as := [.ref 27, .int x3]) (rest := []) rfl (Nat.le_of_ble_eq_true rfl) h2 ?_
  refine Ev.run (c' := (26, [.ref 27, .int x1, .int x2, .int x3], [.int v2], hp E w2)) hM_119 0 rfl ?_
  refine Ev.ifF hM_119 rfl (cI_eqF c3) ?_
  refine Ev.run (c' := (34, [.ref 27, .int x1, .int x2, .int x3], [.int (1 : Int32)], hp E w2)) hM_119 2 rfl ?_
  exact Ev.fin hM_119 rfl rfl
theorem p119_e_e {E : Nat × (Nat → Int32)} {w : Wd} {d : Nat} {x1 x2 x3 : Int32} {w1 : Wd} {v1 : Int32} {w2 : Wd} {v2 : Int32} (hd : 1 ≤ d) (h1 : Ev (d - 1) 98 (ent0 98 [.ref 27, .int x1] (hp E w)) (.inl (some (.int v1)), hp E w1)) (c1 : ¬ v1 = 0) (c2 : x2 = (-1 : Int32)) (h2 : Ev (d - 1) 98 (ent0 98 [.ref 27, .int x3] (hp E w1)) (.inl (some (.int v2)), hp E w2)) (c3 : v2 = 0) : Ev d 119 (ent0 119 [.ref 27, .int x1, .int x2, .int x3] (hp E w)) (.inl (some (.int (0 : Int32))), hp E w2) := by
  refine Ev.run (c' := (2, [.ref 27, .int x1, .int x2, .int x3], [.int x1, .ref 27], hp E w)) hM_119 2 rfl ?_
  refine Ev.callR hd hM_119 rfl (y := 98) (as := [.ref 27, .int x1]) (rest := []) rfl (Nat.le_of_ble_eq_true rfl) h1 ?_
  refine Ev.run (c' := (5, [.ref 27, .int x1, .int x2, .int x3], [.int v1], hp E w1)) hM_119 0 rfl ?_
  refine Ev.ifF hM_119 rfl (cI_eqF c1) ?_
  refine Ev.run (c' := (10, [.ref 27, .int x1, .int x2, .int x3], [.int (-1 : Int32), .int x2], hp E w1)) hM_119 2 rfl ?_
  refine Ev.icT hM_119 rfl (cI_eqT c2) ?_
  refine Ev.run (c' := (23, [.ref 27, .int x1, .int x2, .int x3], [.int x3, .ref 27], hp E w1)) hM_119 2 rfl ?_
  refine Ev.callR hd hM_119 rfl (y := 98) (as := [.ref 27, .int x3]) (rest := []) rfl (Nat.le_of_ble_eq_true rfl) h2 ?_
  refine Ev.run (c' := (26, [.ref 27, .int x1, .int x2, .int x3], [.int v2], hp E w2)) hM_119 0 rfl ?_
  refine Ev.ifT hM_119 rfl (cI_eqT c3) ?_
  refine Ev.run (c' := (34, [.ref 27, .int x1, .int x2, .int x3], [.int (0 : Int32)], hp E w2)) hM_119 1 rfl ?_
  exact Ev.fin hM_119 rfl rfl
theorem p119_e_f {E : Nat × (Nat → Int32)} {w : Wd} {d : Nat} {x1 x2 x3 : Int32} {w1 : Wd} {v1 : Int32} (hd : 1 ≤ d) (h1 : Ev (d - 1) 98 (ent0 98 [.ref 27, .int x1] (hp E w)) (.inl (some (.int v1)), hp E w1)) (c1 : v1 = 0) : Ev d 119 (ent0 119 [.ref 27, .int x1, .int x2, .int x3] (hp E w)) (.inl (some (.int (0 : Int32))), hp E w1) := by
  refine Ev.run (c' := (2, [.ref 27, .int x1, .int x2, .int x3], [.int x1, .ref 27], hp E w)) hM_119 2 rfl ?_
  refine Ev.callR hd hM_119 rfl (y := 98) (as := [.ref 27, .int x1]) (rest := []) rfl (Nat.le_of_ble_eq_true rfl) h1 ?_
  refine Ev.run (c' := (5, [.ref 27, .int x1, .int x2, .int x3], [.int v1], hp E w1)) hM_119 0 rfl ?_
  refine Ev.ifT hM_119 rfl (cI_eqT c1) ?_
  refine Ev.run (c' := (34, [.ref 27, .int x1, .int x2, .int x3], [.int (0 : Int32)], hp E w1)) hM_119 1 rfl ?_
  exact Ev.fin hM_119 rfl rfl
end
