section
theorem hM_59 : mAt 59 = some km_X7_rooms := rfl
theorem p59_e_b {E : Nat × (Nat → Int32)} {w : Wd} {d : Nat} {x1 : Int32} {w1 : Wd} {w2 : Wd} {y : Int32} (hd : 1 ≤ d) (c1 : ¬ x1 < (1 : Int32)) (c2 : ¬ (9 : Int32) < x1) (h1 : Ev (d - 1) 38 (ent0 38 [.ref 2, .int x1] (hp E w)) (.inl none, hp E w1)) (h2 : Ev (d - 1) 73 (ent0 73 [.ref 1] (hp E w1)) (.inl none, hp E w2)) (q : (gF w 1) = y) : Ev d 59 (ent0 59 [.ref 1, .int x1] (hp E w)) (.inl (some (.int y)), hp E w2) := by
  subst q
  refine Ev.run (c' := (2, [.ref 1, .int x1, jk], [.int (1 : Int32), .int x1], hp E w)) hM_59 2 rfl ?_
  refine Ev.icF hM_59 rfl (cI_ltF c1) ?_
  refine Ev.run (c' := (8, [.ref 1, .int x1, jk], [.int (9 : Int32), .int x1], hp E w)) hM_59 2 rfl ?_
  refine Ev.icT hM_59 rfl (cI_leT c2) ?_
  refine Ev.run (c' := (25, [.ref 1, .int x1, jk], [.ref 2], hp E w)) hM_59 2 rfl ?_
  refine Ev.callR hd hM_59 rfl (y := 39) (as := [.ref 2]) (rest := []) rfl (Nat.le_of_ble_eq_true rfl) (Ev.run (c' := (4, [.ref 2], [.int (gF w 1)], hp E w)) hM_39 2 rfl (Ev.fin hM_39 rfl rfl)) ?_
  refine Ev.run (c' := (34, [.ref 1, .int x1, .int (gF w 1)], [.int x1, .ref 2], hp E w)) hM_59 4 rfl ?_
  refine Ev.callR hd hM_59 rfl (y := 38) (as := [.ref 2, .int x1]) (rest := []) rfl (Nat.le_of_ble_eq_true rfl) h1 ?_
  refine Ev.run (c' := (38, [.ref 1, .int x1, .int (gF w 1)], [.ref 1], hp E w1)) hM_59 1 rfl ?_
  refine Ev.callR hd hM_59 rfl (y := 73) (as := [.ref 1]) (rest := []) rfl (Nat.le_of_ble_eq_true rfl) h2 ?_
  refine Ev.run (c' := (42, [.ref 1, .int x1, .int (gF w 1)], [.int (gF w 1)], hp E w2)) hM_59 1 rfl ?_
  exact Ev.fin hM_59 rfl rfl
theorem hM_60 : mAt 60 = some km_X7_door := rfl
theorem p60_e_e {E : Nat × (Nat → Int32)} {w : Wd} {d : Nat} {x1 x2 x3 : Int32} {w1 : Wd} {w2 : Wd} {w3 : Wd} {v1 : Int32} {w4 : Wd} {z1 : Int32} {w5 : Wd} {w6 : Wd} {w7 : Wd} {v2 : Int32} {w' : Wd} (hd : 1 ≤ d) (h1 : Ev (d - 1) 74 (ent0 74 [.ref 1, .int x1] (hp E w)) (.inl none, hp E w1)) (h2 : Ev (d - 1) 74 (ent0 74 [.ref 1, .int x2] (hp E w1)) (.inl none, hp E w2)) (c1 : ¬ x1 = x2) (h3 : Ev (d - 1) 44 (ent0 44 [.ref 2, .int x1, .int x2] (hp E w2)) (.inl (some (.int v1)), hp E w3)) (c2 : ¬ v1 = x3) (h4 : Ev (d - 1) 77 (ent0 77 [.ref 1] (hp E w3)) (.inl none, hp E w4)) (a1 : (gF w4 0) = z1) (h5 : Ev (d - 1) 32 (ent0 32 [.ref 5, .int x1, .int x2, .int z1] (hp E w4)) (.inl none, hp E w5)) (h6 : Ev (d - 1) 45 (ent0 45 [.ref 2, .int x1, .int x2] (hp E w5)) (.inl none, hp E w6)) (h7 : Ev (d - 1) 42 (ent0 42 [.ref 2] (hp E w6)) (.inl (some (.int v2)), hp E w7)) (qw : (sF 0 v2 w7) = w') (hb : v1 &&& 1 = v1) : Ev d 60 (ent0 60 [.ref 1, .int x1, .int x2, .int x3] (hp E w)) (.inl (some (.int v1)), hp E w') := by
  subst qw
  refine Ev.run (c' := (2, [.ref 1, .int x1, .int x2, .int x3, jk], [.int x1, .ref 1], hp E w)) hM_60 2 rfl ?_
  refine Ev.callR hd hM_60 rfl (y := 74) (as := [.ref 1, .int x1]) (rest := []) rfl (Nat.le_of_ble_eq_true rfl) h1 ?_
  refine Ev.run (c' := (7, [.ref 1, .int x1, .int x2, .int x3, jk], [.int x2, .ref 1], hp E w1)) hM_60 2 rfl ?_
  refine Ev.callR hd hM_60 rfl (y := 74) (as := [.ref 1, .int x2]) (rest := []) rfl (Nat.le_of_ble_eq_true rfl) h2 ?_
  refine Ev.run (c' := (12, [.ref 1, .int x1, .int x2, .int x3, jk], [.int x2, .int x1], hp E w2)) hM_60 2 rfl ?_
  refine Ev.icT hM_60 rfl (cI_neT c1) ?_
  refine Ev.run (c' := (31, [.ref 1, .int x1, .int x2, .int x3, jk], [.int x2, .int x1, .ref 2], hp E w2)) hM_60 4 rfl ?_
  refine Ev.callR hd hM_60 rfl (y := 44) (as := [.ref 2, .int x1, .int x2]) (rest := []) rfl (Nat.le_of_ble_eq_true rfl) h3 ?_
  refine Ev.run (c' := (39, [.ref 1, .int x1, .int x2, .int x3, .int v1], [.int x3, .int v1], hp E w3)) hM_60 3 rfl ?_
  refine Ev.icF hM_60 rfl (cI_eqF c2) ?_
  refine Ev.run (c' := (43, [.ref 1, .int x1, .int x2, .int x3, .int v1], [.ref 1], hp E w3)) hM_60 1 rfl ?_
  refine Ev.callR hd hM_60 rfl (y := 77) (as := [.ref 1]) (rest := []) rfl (Nat.le_of_ble_eq_true rfl) h4 ?_
  refine Ev.run (c' := (56, [.ref 1, .int x1, .int x2, .int x3, .int v1], [.int (gF w4 0), .int x2, .int x1, .ref 5], hp E w4)) hM_60 6 rfl ?_
  rw [← a1] at h5
  refine Ev.callR hd hM_60 rfl (y := 32) (as := [.ref 5, .int x1, .int x2, .int (gF w4 0)]) (rest := []) rfl (Nat.le_of_ble_eq_true rfl) h5 ?_
  refine Ev.run (c' := (65, [.ref 1, .int x1, .int x2, .int x3, .int v1], [.int x2, .int x1, .ref 2], hp E w5)) hM_60 4 rfl ?_
  refine Ev.callR hd hM_60 rfl (y := 45) (as := [.ref 2, .int x1, .int x2]) (rest := []) rfl (Nat.le_of_ble_eq_true rfl) h6 ?_
  refine Ev.run (c' := (73, [.ref 1, .int x1, .int x2, .int x3, .int v1], [.ref 2, .ref 1], hp E w6)) hM_60 3 rfl ?_
  refine Ev.callR hd hM_60 rfl (y := 42) (as := [.ref 2]) (rest := [.ref 1]) rfl (Nat.le_of_ble_eq_true rfl) h7 ?_
  refine Ev.run (c' := (81, [.ref 1, .int x1, .int x2, .int x3, .int v1], [.int v1], hp E (sF 0 v2 w7))) hM_60 2 rfl ?_
  exact Ev.finZ hM_60 rfl rfl hb
theorem p60_e_f {E : Nat × (Nat → Int32)} {w : Wd} {d : Nat} {x1 x2 x3 : Int32} {w1 : Wd} {w2 : Wd} {w3 : Wd} {v1 : Int32} (hd : 1 ≤ d) (h1 : Ev (d - 1) 74 (ent0 74 [.ref 1, .int x1] (hp E w)) (.inl none, hp E w1)) (h2 : Ev (d - 1) 74 (ent0 74 [.ref 1, .int x2] (hp E w1)) (.inl none, hp E w2)) (c1 : ¬ x1 = x2) (h3 : Ev (d - 1) 44 (ent0 44 [.ref 2, .int x1, .int x2] (hp E w2)) (.inl (some (.int v1)), hp E w3)) (c2 : v1 = x3) (hb : v1 &&& 1 = v1) : Ev d 60 (ent0 60 [.ref 1, .int x1, .int x2, .int x3] (hp E w)) (.inl (some (.int v1)), hp E w3) := by
  refine Ev.run (c' := (2, [.ref 1, .int x1, .int x2, .int x3, jk], [.int x1, .ref 1], hp E w)) hM_60 2 rfl ?_
  refine Ev.callR hd hM_60 rfl (y := 74) (as := [.ref 1, .int x1]) (rest := []) rfl (Nat.le_of_ble_eq_true rfl) h1 ?_
  refine Ev.run (c' := (7, [.ref 1, .int x1, .int x2, .int x3, jk], [.int x2, .ref 1], hp E w1)) hM_60 2 rfl ?_
  refine Ev.callR hd hM_60 rfl (y := 74) (as := [.ref 1, .int x2]) (rest := []) rfl (Nat.le_of_ble_eq_true rfl) h2 ?_
  refine Ev.run (c' := (12, [.ref 1, .int x1, .int x2, .int x3, jk], [.int x2, .int x1], hp E w2)) hM_60 2 rfl ?_
  refine Ev.icT hM_60 rfl (cI_neT c1) ?_
  refine Ev.run (c' := (31, [.ref 1, .int x1, .int x2, .int x3, jk], [.int x2, .int x1, .ref 2], hp E w2)) hM_60 4 rfl ?_
  refine Ev.callR hd hM_60 rfl (y := 44) (as := [.ref 2, .int x1, .int x2]) (rest := []) rfl (Nat.le_of_ble_eq_true rfl) h3 ?_
  refine Ev.run (c' := (39, [.ref 1, .int x1, .int x2, .int x3, .int v1], [.int x3, .int v1], hp E w3)) hM_60 3 rfl ?_
  refine Ev.icT hM_60 rfl (cI_eqT c2) ?_
  refine Ev.run (c' := (81, [.ref 1, .int x1, .int x2, .int x3, .int v1], [.int v1], hp E w3)) hM_60 1 rfl ?_
  exact Ev.finZ hM_60 rfl rfl hb
theorem hM_61 : mAt 61 = some km_X7_shoot := rfl
theorem p61_e_d {E : Nat × (Nat → Int32)} {w : Wd} {d : Nat} {x1 : Int32} {w1 : Wd} {w2 : Wd} {z1 : Int32} {w3 : Wd} {z2 : Int32} {w4 : Wd} {v1 : Int32} {y : Int32} {w' : Wd} (hd : 1 ≤ d) (h1 : Ev (d - 1) 74 (ent0 74 [.ref 1, .int x1] (hp E w)) (.inl none, hp E w1)) (c1 : ¬ (gF w1 0) = 0) (h2 : Ev (d - 1) 77 (ent0 77 [.ref 1] (hp E w1)) (.inl none, hp E w2)) (a1 : (gF w2 0) = z1) (h3 : Ev (d - 1) 32 (ent0 32 [.ref 5, .int x1, .int (-1 : Int32), .int z1] (hp E w2)) (.inl none, hp E w3)) (a2 : (gF w3 0) = z2) (h4 : Ev (d - 1) 50 (ent0 50 [.ref 2, .int z2, .int x1] (hp E w3)) (.inl (some (.int v1)), hp E w4)) (q : (gF (sF 0 v1 w4) 0) = y) (qw : (sF 0 v1 w4) = w') : Ev d 61 (ent0 61 [.ref 1, .int x1] (hp E w)) (.inl (some (.int y)), hp E w') := by
  subst qw
  subst q
  refine Ev.run (c' := (2, [.ref 1, .int x1], [.int x1, .ref 1], hp E w)) hM_61 2 rfl ?_
  refine Ev.callR hd hM_61 rfl (y := 74) (as := [.ref 1, .int x1]) (rest := []) rfl (Nat.le_of_ble_eq_true rfl) h1 ?_
  refine Ev.run (c' := (9, [.ref 1, .int x1], [.int (gF w1 0)], hp E w1)) hM_61 2 rfl ?_
  refine Ev.ifT hM_61 rfl (cI_neT c1) ?_
  refine Ev.run (c' := (23, [.ref 1, .int x1], [.ref 1], hp E w1)) hM_61 1 rfl ?_
  refine Ev.callR hd hM_61 rfl (y := 77) (as := [.ref 1]) (rest := []) rfl (Nat.le_of_ble_eq_true rfl) h2 ?_
  refine Ev.run (c' := (36, [.ref 1, .int x1], [.int (gF w2 0), .int (-1 : Int32), .int x1, .ref 5], hp E w2)) hM_61 6 rfl ?_
  rw [← a1] at h3
  refine Ev.callR hd hM_61 rfl (y := 32) (as := [.ref 5, .int x1, .int (-1 : Int32), .int (gF w2 0)]) (rest := []) rfl (Nat.le_of_ble_eq_true rfl) h3 ?_
  refine Ev.run (c' := (49, [.ref 1, .int x1], [.int x1, .int (gF w3 0), .ref 2, .ref 1], hp E w3)) hM_61 6 rfl ?_
  rw [← a2] at h4
  refine Ev.callR hd hM_61 rfl (y := 50) (as := [.ref 2, .int (gF w3 0), .int x1]) (rest := [.ref 1]) rfl (Nat.le_of_ble_eq_true rfl) h4 ?_
  refine Ev.run (c' := (59, [.ref 1, .int x1], [.int (gF (sF 0 v1 w4) 0)], hp E (sF 0 v1 w4))) hM_61 3 rfl ?_
  exact Ev.fin hM_61 rfl rfl
theorem hM_62 : mAt 62 = some km_X7_back := rfl
theorem p62_e_b {E : Nat × (Nat → Int32)} {w : Wd} {d : Nat} {w1 : Wd} {v1 : Int32} {w2 : Wd} {v2 : Int32} {w3 : Wd} {w4 : Wd} {v3 : Int32} {w5 : Wd} {y : Int32} (hd : 1 ≤ d) (c1 : ¬ (gF w 3) = 0) (h1 : Ev (d - 1) 34 (ent0 34 [.ref 5] (hp E w)) (.inl (some (.int v1)), hp E w1)) (c2 : ¬ v1 = (-1 : Int32)) (h2 : Ev (d - 1) 33 (ent0 33 [.ref 5] (hp E w1)) (.inl (some (.int v2)), hp E w2)) (h3 : Ev (d - 1) 45 (ent0 45 [.ref 2, .int v2, .int v1] (hp E w2)) (.inl none, hp E w3)) (h4 : Ev (d - 1) 35 (ent0 35 [.ref 5] (hp E w3)) (.inl (some (.int v3)), hp E w4)) (h5 : Ev (d - 1) 36 (ent0 36 [.ref 5] (hp E (sF 0 v3 w4))) (.inl none, hp E w5)) (q : (gF w5 3) = y) : Ev d 62 (ent0 62 [.ref 1] (hp E w)) (.inl (some (.int y)), hp E w5) := by
  subst q
  refine Ev.run (c' := (4, [.ref 1, jk], [.ref 5], hp E w)) hM_62 2 rfl ?_
  refine Ev.callR hd hM_62 rfl (y := 30) (as := [.ref 5]) (rest := []) rfl (Nat.le_of_ble_eq_true rfl) (Ev.run (c' := (4, [.ref 5], [.int (gF w 3)], hp E w)) hM_30 2 rfl (Ev.fin hM_30 rfl rfl)) ?_
  refine Ev.run (c' := (7, [.ref 1, jk], [.int (gF w 3)], hp E w)) hM_62 0 rfl ?_
  refine Ev.ifT hM_62 rfl (cI_neT c1) ?_
  refine Ev.run (c' := (24, [.ref 1, jk], [.ref 5], hp E w)) hM_62 2 rfl ?_
  refine Ev.callR hd hM_62 rfl (y := 34) (as := [.ref 5]) (rest := []) rfl (Nat.le_of_ble_eq_true rfl) h1 ?_
  refine Ev.run (c' := (30, [.ref 1, .int v1], [.int (-1 : Int32), .int v1], hp E w1)) hM_62 3 rfl ?_
  refine Ev.icF hM_62 rfl (cI_eqF c2) ?_
  refine Ev.run (c' := (41, [.ref 1, .int v1], [.ref 5, .ref 2], hp E w1)) hM_62 4 rfl ?_
  refine Ev.callR hd hM_62 rfl (y := 33) (as := [.ref 5]) (rest := [.ref 2]) rfl (Nat.le_of_ble_eq_true rfl) h2 ?_
  refine Ev.run (c' := (45, [.ref 1, .int v1], [.int v1, .int v2, .ref 2], hp E w2)) hM_62 1 rfl ?_
  refine Ev.callR hd hM_62 rfl (y := 45) (as := [.ref 2, .int v2, .int v1]) (rest := []) rfl (Nat.le_of_ble_eq_true rfl) h3 ?_
  refine Ev.run (c' := (53, [.ref 1, .int v1], [.ref 5, .ref 1], hp E w3)) hM_62 3 rfl ?_
  refine Ev.callR hd hM_62 rfl (y := 35) (as := [.ref 5]) (rest := [.ref 1]) rfl (Nat.le_of_ble_eq_true rfl) h4 ?_
  refine Ev.run (c' := (63, [.ref 1, .int v1], [.ref 5], hp E (sF 0 v3 w4))) hM_62 3 rfl ?_
  refine Ev.callR hd hM_62 rfl (y := 36) (as := [.ref 5]) (rest := []) rfl (Nat.le_of_ble_eq_true rfl) h5 ?_
  refine Ev.run (c' := (70, [.ref 1, .int v1], [.ref 5], hp E w5)) hM_62 2 rfl ?_
  refine Ev.callR hd hM_62 rfl (y := 30) (as := [.ref 5]) (rest := []) rfl (Nat.le_of_ble_eq_true rfl) (Ev.run (c' := (4, [.ref 5], [.int (gF w5 3)], hp E w5)) hM_30 2 rfl (Ev.fin hM_30 rfl rfl)) ?_
  refine Ev.run (c' := (73, [.ref 1, .int v1], [.int (gF w5 3)], hp E w5)) hM_62 0 rfl ?_
  exact Ev.fin hM_62 rfl rfl
theorem p62_e_c {E : Nat × (Nat → Int32)} {w : Wd} {d : Nat} {w1 : Wd} {v1 : Int32} {w2 : Wd} {v2 : Int32} {w3 : Wd} {y : Int32} (hd : 1 ≤ d) (c1 : ¬ (gF w 3) = 0) (h1 : Ev (d - 1) 34 (ent0 34 [.ref 5] (hp E w)) (.inl (some (.int v1)), hp E w1)) (c2 : v1 = (-1 : Int32)) (h2 : Ev (d - 1) 35 (ent0 35 [.ref 5] (hp E w1)) (.inl (some (.int v2)), hp E w2)) (h3 : Ev (d - 1) 36 (ent0 36 [.ref 5] (hp E (sF 0 v2 w2))) (.inl none, hp E w3)) (q : (gF w3 3) = y) : Ev d 62 (ent0 62 [.ref 1] (hp E w)) (.inl (some (.int y)), hp E w3) := by
  subst q
  refine Ev.run (c' := (4, [.ref 1, jk], [.ref 5], hp E w)) hM_62 2 rfl ?_
  refine Ev.callR hd hM_62 rfl (y := 30) (as := [.ref 5]) (rest := []) rfl (Nat.le_of_ble_eq_true rfl) (Ev.run (c' := (4, [.ref 5], [.int (gF w 3)], hp E w)) hM_30 2 rfl (Ev.fin hM_30 rfl rfl)) ?_
  refine Ev.run (c' := (7, [.ref 1, jk], [.int (gF w 3)], hp E w)) hM_62 0 rfl ?_
  refine Ev.ifT hM_62 rfl (cI_neT c1) ?_
  refine Ev.run (c' := (24, [.ref 1, jk], [.ref 5], hp E w)) hM_62 2 rfl ?_
  refine Ev.callR hd hM_62 rfl (y := 34) (as := [.ref 5]) (rest := []) rfl (Nat.le_of_ble_eq_true rfl) h1 ?_
  refine Ev.run (c' := (30, [.ref 1, .int v1], [.int (-1 : Int32), .int v1], hp E w1)) hM_62 3 rfl ?_
  refine Ev.icT hM_62 rfl (cI_eqT c2) ?_
  refine Ev.run (c' := (53, [.ref 1, .int v1], [.ref 5, .ref 1], hp E w1)) hM_62 3 rfl ?_
  refine Ev.callR hd hM_62 rfl (y := 35) (as := [.ref 5]) (rest := [.ref 1]) rfl (Nat.le_of_ble_eq_true rfl) h2 ?_
  refine Ev.run (c' := (63, [.ref 1, .int v1], [.ref 5], hp E (sF 0 v2 w2))) hM_62 3 rfl ?_
  refine Ev.callR hd hM_62 rfl (y := 36) (as := [.ref 5]) (rest := []) rfl (Nat.le_of_ble_eq_true rfl) h3 ?_
  refine Ev.run (c' := (70, [.ref 1, .int v1], [.ref 5], hp E w3)) hM_62 2 rfl ?_
  refine Ev.callR hd hM_62 rfl (y := 30) (as := [.ref 5]) (rest := []) rfl (Nat.le_of_ble_eq_true rfl) (Ev.run (c' := (4, [.ref 5], [.int (gF w3 3)], hp E w3)) hM_30 2 rfl (Ev.fin hM_30 rfl rfl)) ?_
  refine Ev.run (c' := (73, [.ref 1, .int v1], [.int (gF w3 3)], hp E w3)) hM_62 0 rfl ?_
  exact Ev.fin hM_62 rfl rfl
theorem hM_63 : mAt 63 = some km_X7_time := rfl
theorem p63_e_b {E : Nat × (Nat → Int32)} {w : Wd} {d : Nat} {x1 x2 x3 : Int32} {w1 : Wd} {w2 : Wd} {w3 : Wd} {v1 : Int32} {w4 : Wd} {v2 : Int32} (hd : 1 ≤ d) (h1 : Ev (d - 1) 75 (ent0 75 [.ref 1, .int x1, .int x2, .int x3] (hp E w)) (.inl none, hp E w1)) (h2 : Ev (d - 1) 7 (ent0 7 [.ref 12, .ref 2] (hp E w1)) (.inl none, hp E w2)) (h3 : Ev (d - 1) 78 (ent0 78 [.int x2] (hp E w2)) (.inl (some (.int v1)), hp E w3)) (h4 : Ev (d - 1) 16 (ent0 16 [.ref 12, .int x1, .int v1, .int x3] (hp E w3)) (.inl (some (.int v2)), hp E w4)) : Ev d 63 (ent0 63 [.ref 1, .int x1, .int x2, .int x3] (hp E w)) (.inl (some (.int v2)), hp E w4) := by
  refine Ev.run (c' := (4, [.ref 1, .int x1, .int x2, .int x3], [.int x3, .int x2, .int x1, .ref 1], hp E w)) hM_63 4 rfl ?_
  refine Ev.callR hd hM_63 rfl (y := 75) (as := [.ref 1, .int x1, .int x2, .int x3]) (rest := []) rfl (Nat.le_of_ble_eq_true rfl) h1 ?_
  refine Ev.run (c' := (15, [.ref 1, .int x1, .int x2, .int x3], [.ref 2, .ref 12], hp E w1)) hM_63 4 rfl ?_
  refine Ev.callR hd hM_63 rfl (y := 7) (as := [.ref 12, .ref 2]) (rest := []) rfl (Nat.le_of_ble_eq_true rfl) h2 ?_
  refine Ev.run (c' := (24, [.ref 1, .int x1, .int x2, .int x3], [.int x2, .int x1, .ref 12], hp E w2)) hM_63 4 rfl ?_
  refine Ev.callR hd hM_63 rfl (y := 78) (as := [.int x2]) (rest := [.int x1, .ref 12]) rfl (Nat.le_of_ble_eq_true rfl) h3 ?_
  refine Ev.run (c' := (28, [.ref 1, .int x1, .int x2, .int x3], [.int x3, .int v1, .int x1, .ref 12], hp E w3)) hM_63 1 rfl ?_
  refine Ev.callR hd hM_63 rfl (y := 16) (as := [.ref 12, .int x1, .int v1, .int x3]) (rest := []) rfl (Nat.le_of_ble_eq_true rfl) h4 ?_
  refine Ev.run (c' := (31, [.ref 1, .int x1, .int x2, .int x3], [.int v2], hp E w4)) hM_63 0 rfl ?_
  exact Ev.fin hM_63 rfl rfl
theorem hM_64 : mAt 64 = some km_X7_step := rfl
theorem p64_e_b {E : Nat × (Nat → Int32)} {w : Wd} {d : Nat} {x1 x2 x3 : Int32} {w1 : Wd} {w2 : Wd} {w3 : Wd} {v1 : Int32} {w4 : Wd} {v2 : Int32} (hd : 1 ≤ d) (h1 : Ev (d - 1) 75 (ent0 75 [.ref 1, .int x1, .int x2, .int x3] (hp E w)) (.inl none, hp E w1)) (h2 : Ev (d - 1) 7 (ent0 7 [.ref 12, .ref 2] (hp E w1)) (.inl none, hp E w2)) (h3 : Ev (d - 1) 78 (ent0 78 [.int x2] (hp E w2)) (.inl (some (.int v1)), hp E w3)) (h4 : Ev (d - 1) 18 (ent0 18 [.ref 12, .ref 2, .int x1, .int v1, .int x3] (hp E w3)) (.inl (some (.int v2)), hp E w4)) : Ev d 64 (ent0 64 [.ref 1, .int x1, .int x2, .int x3] (hp E w)) (.inl (some (.int v2)), hp E w4) := by
  refine Ev.run (c' := (4, [.ref 1, .int x1, .int x2, .int x3], [.int x3, .int x2, .int x1, .ref 1], hp E w)) hM_64 4 rfl ?_
  refine Ev.callR hd hM_64 rfl (y := 75) (as := [.ref 1, .int x1, .int x2, .int x3]) (rest := []) rfl (Nat.le_of_ble_eq_true rfl) h1 ?_
  refine Ev.run (c' := (15, [.ref 1, .int x1, .int x2, .int x3], [.ref 2, .ref 12], hp E w1)) hM_64 4 rfl ?_
  refine Ev.callR hd hM_64 rfl (y := 7) (as := [.ref 12, .ref 2]) (rest := []) rfl (Nat.le_of_ble_eq_true rfl) h2 ?_
  refine Ev.run (c' := (28, [.ref 1, .int x1, .int x2, .int x3], [.int x2, .int x1, .ref 2, .ref 12], hp E w2)) hM_64 6 rfl ?_
  refine Ev.callR hd hM_64 rfl (y := 78) (as := [.int x2]) (rest := [.int x1, .ref 2, .ref 12]) rfl (Nat.le_of_ble_eq_true rfl) h3 ?_
  refine Ev.run (c' := (32, [.ref 1, .int x1, .int x2, .int x3], [.int x3, .int v1, .int x1, .ref 2, .ref 12], hp E w3)) hM_64 1 rfl ?_
  refine Ev.callR hd hM_64 rfl (y := 18) (as := [.ref 12, .ref 2, .int x1, .int v1, .int x3]) (rest := []) rfl (Nat.le_of_ble_eq_true rfl) h4 ?_
  refine Ev.run (c' := (35, [.ref 1, .int x1, .int x2, .int x3], [.int v2], hp E w4)) hM_64 0 rfl ?_
  exact Ev.fin hM_64 rfl rfl
theorem hM_65 : mAt 65 = some km_X7_away := rfl
theorem p65_e_b {E : Nat × (Nat → Int32)} {w : Wd} {d : Nat} {x1 x2 x3 : Int32} {w1 : Wd} {w2 : Wd} {w3 : Wd} {v1 : Int32} {w4 : Wd} {v2 : Int32} (hd : 1 ≤ d) (h1 : Ev (d - 1) 75 (ent0 75 [.ref 1, .int x1, .int x2, .int x3] (hp E w)) (.inl none, hp E w1)) (h2 : Ev (d - 1) 7 (ent0 7 [.ref 12, .ref 2] (hp E w1)) (.inl none, hp E w2)) (h3 : Ev (d - 1) 78 (ent0 78 [.int x2] (hp E w2)) (.inl (some (.int v1)), hp E w3)) (h4 : Ev (d - 1) 20 (ent0 20 [.ref 12, .ref 2, .int x1, .int v1, .int x3] (hp E w3)) (.inl (some (.int v2)), hp E w4)) : Ev d 65 (ent0 65 [.ref 1, .int x1, .int x2, .int x3] (hp E w)) (.inl (some (.int v2)), hp E w4) := by
  refine Ev.run (c' := (4, [.ref 1, .int x1, .int x2, .int x3], [.int x3, .int x2, .int x1, .ref 1], hp E w)) hM_65 4 rfl ?_
  refine Ev.callR hd hM_65 rfl (y := 75) (as := [.ref 1, .int x1, .int x2, .int x3]) (rest := []) rfl (Nat.le_of_ble_eq_true rfl) h1 ?_
  refine Ev.run (c' := (15, [.ref 1, .int x1, .int x2, .int x3], [.ref 2, .ref 12], hp E w1)) hM_65 4 rfl ?_
  refine Ev.callR hd hM_65 rfl (y := 7) (as := [.ref 12, .ref 2]) (rest := []) rfl (Nat.le_of_ble_eq_true rfl) h2 ?_
  refine Ev.run (c' := (28, [.ref 1, .int x1, .int x2, .int x3], [.int x2, .int x1, .ref 2, .ref 12], hp E w2)) hM_65 6 rfl ?_
  refine Ev.callR hd hM_65 rfl (y := 78) (as := [.int x2]) (rest := [.int x1, .ref 2, .ref 12]) rfl (Nat.le_of_ble_eq_true rfl) h3 ?_
  refine Ev.run (c' := (32, [.ref 1, .int x1, .int x2, .int x3], [.int x3, .int v1, .int x1, .ref 2, .ref 12], hp E w3)) hM_65 1 rfl ?_
  refine Ev.callR hd hM_65 rfl (y := 20) (as := [.ref 12, .ref 2, .int x1, .int v1, .int x3]) (rest := []) rfl (Nat.le_of_ble_eq_true rfl) h4 ?_
  refine Ev.run (c' := (35, [.ref 1, .int x1, .int x2, .int x3], [.int v2], hp E w4)) hM_65 0 rfl ?_
  exact Ev.fin hM_65 rfl rfl
theorem hM_66 : mAt 66 = some km_X7_catches := rfl
theorem p66_e_b {E : Nat × (Nat → Int32)} {w : Wd} {d : Nat} {x1 : Int32} {w1 : Wd} {w2 : Wd} {v1 : Int32} (hd : 1 ≤ d) (c1 : ¬ x1 < (1 : Int32)) (c2 : ¬ (2 : Int32) < x1) (h1 : Ev (d - 1) 7 (ent0 7 [.ref 12, .ref 2] (hp E w)) (.inl none, hp E w1)) (c3 : x1 = (1 : Int32)) (h2 : Ev (d - 1) 21 (ent0 21 [.ref 12, .ref 2] (hp E w1)) (.inl (some (.int v1)), hp E w2)) (hb : v1 &&& 1 = v1) : Ev d 66 (ent0 66 [.ref 1, .int x1] (hp E w)) (.inl (some (.int v1)), hp E w2) := by
  refine Ev.run (c' := (2, [.ref 1, .int x1], [.int (1 : Int32), .int x1], hp E w)) hM_66 2 rfl ?_
  refine Ev.icF hM_66 rfl (cI_ltF c1) ?_
  refine Ev.run (c' := (7, [.ref 1, .int x1], [.int (2 : Int32), .int x1], hp E w)) hM_66 2 rfl ?_
  refine Ev.icT hM_66 rfl (cI_leT c2) ?_
  refine Ev.run (c' := (28, [.ref 1, .int x1], [.ref 2, .ref 12], hp E w)) hM_66 4 rfl ?_
  refine Ev.callR hd hM_66 rfl (y := 7) (as := [.ref 12, .ref 2]) (rest := []) rfl (Nat.le_of_ble_eq_true rfl) h1 ?_
  refine Ev.run (c' := (33, [.ref 1, .int x1], [.int (1 : Int32), .int x1], hp E w1)) hM_66 2 rfl ?_
  refine Ev.icF hM_66 rfl (cI_neF c3) ?_
  refine Ev.run (c' := (44, [.ref 1, .int x1], [.ref 2, .ref 12], hp E w1)) hM_66 4 rfl ?_
  refine Ev.callR hd hM_66 rfl (y := 21) (as := [.ref 12, .ref 2]) (rest := []) rfl (Nat.le_of_ble_eq_true rfl) h2 ?_
  refine Ev.run (c' := (61, [.ref 1, .int x1], [.int v1], hp E w2)) hM_66 1 rfl ?_
  exact Ev.finZ hM_66 rfl rfl hb
theorem p66_e_c {E : Nat × (Nat → Int32)} {w : Wd} {d : Nat} {x1 : Int32} {w1 : Wd} {w2 : Wd} {v1 : Int32} (hd : 1 ≤ d) (c1 : ¬ x1 < (1 : Int32)) (c2 : ¬ (2 : Int32) < x1) (h1 : Ev (d - 1) 7 (ent0 7 [.ref 12, .ref 2] (hp E w)) (.inl none, hp E w1)) (c3 : ¬ x1 = (1 : Int32)) (h2 : Ev (d - 1) 22 (ent0 22 [.ref 12, .ref 2] (hp E w1)) (.inl (some (.int v1)), hp E w2)) (hb : v1 &&& 1 = v1) : Ev d 66 (ent0 66 [.ref 1, .int x1] (hp E w)) (.inl (some (.int v1)), hp E w2) := by
  refine Ev.run (c' := (2, [.ref 1, .int x1], [.int (1 : Int32), .int x1], hp E w)) hM_66 2 rfl ?_
  refine Ev.icF hM_66 rfl (cI_ltF c1) ?_
  refine Ev.run (c' := (7, [.ref 1, .int x1], [.int (2 : Int32), .int x1], hp E w)) hM_66 2 rfl ?_
  refine Ev.icT hM_66 rfl (cI_leT c2) ?_
  refine Ev.run (c' := (28, [.ref 1, .int x1], [.ref 2, .ref 12], hp E w)) hM_66 4 rfl ?_
  refine Ev.callR hd hM_66 rfl (y := 7) (as := [.ref 12, .ref 2]) (rest := []) rfl (Nat.le_of_ble_eq_true rfl) h1 ?_
  refine Ev.run (c' := (33, [.ref 1, .int x1], [.int (1 : Int32), .int x1], hp E w1)) hM_66 2 rfl ?_
  refine Ev.icT hM_66 rfl (cI_neT c3) ?_
  refine Ev.run (c' := (58, [.ref 1, .int x1], [.ref 2, .ref 12], hp E w1)) hM_66 4 rfl ?_
  refine Ev.callR hd hM_66 rfl (y := 22) (as := [.ref 12, .ref 2]) (rest := []) rfl (Nat.le_of_ble_eq_true rfl) h2 ?_
  refine Ev.run (c' := (61, [.ref 1, .int x1], [.int v1], hp E w2)) hM_66 0 rfl ?_
  exact Ev.finZ hM_66 rfl rfl hb
theorem hM_67 : mAt 67 = some km_X7_fallsApart := rfl
theorem p67_e_a {E : Nat × (Nat → Int32)} {w : Wd} {d : Nat} {w1 : Wd} {v1 : Int32} (hd : 1 ≤ d) (h1 : Ev (d - 1) 51 (ent0 51 [.ref 2] (hp E w)) (.inl (some (.int v1)), hp E w1)) (hb : v1 &&& 1 = v1) : Ev d 67 (ent0 67 [.ref 1] (hp E w)) (.inl (some (.int v1)), hp E w1) := by
  refine Ev.run (c' := (4, [.ref 1], [.ref 2], hp E w)) hM_67 2 rfl ?_
  refine Ev.callR hd hM_67 rfl (y := 51) (as := [.ref 2]) (rest := []) rfl (Nat.le_of_ble_eq_true rfl) h1 ?_
  refine Ev.run (c' := (7, [.ref 1], [.int v1], hp E w1)) hM_67 0 rfl ?_
  exact Ev.finZ hM_67 rfl rfl hb
theorem hM_69 : mAt 69 = some km_X7_hunt := rfl
theorem p69_e_a {E : Nat × (Nat → Int32)} {w : Wd} {d : Nat} {w1 : Wd} {z1 : Int32} {w2 : Wd} {v1 : Int32} (hd : 1 ≤ d) (h1 : Ev (d - 1) 1 (ent0 1 [.ref 21, .ref 2] (hp E w)) (.inl none, hp E w1)) (a1 : (gF w1 0) = z1) (h2 : Ev (d - 1) 4 (ent0 4 [.ref 21, .int z1] (hp E w1)) (.inl (some (.int v1)), hp E w2)) : Ev d 69 (ent0 69 [.ref 1] (hp E w)) (.inl (some (.int v1)), hp E w2) := by
  refine Ev.run (c' := (8, [.ref 1], [.ref 2, .ref 21], hp E w)) hM_69 4 rfl ?_
  refine Ev.callR hd hM_69 rfl (y := 1) (as := [.ref 21, .ref 2]) (rest := []) rfl (Nat.le_of_ble_eq_true rfl) h1 ?_
  refine Ev.run (c' := (19, [.ref 1], [.int (gF w1 0), .ref 21], hp E w1)) hM_69 4 rfl ?_
  rw [← a1] at h2
  refine Ev.callR hd hM_69 rfl (y := 4) (as := [.ref 21, .int (gF w1 0)]) (rest := []) rfl (Nat.le_of_ble_eq_true rfl) h2 ?_
  refine Ev.run (c' := (22, [.ref 1], [.int v1], hp E w2)) hM_69 0 rfl ?_
  exact Ev.fin hM_69 rfl rfl
theorem hM_70 : mAt 70 = some km_X7_aim := rfl
theorem p70_e_a {E : Nat × (Nat → Int32)} {w : Wd} {d : Nat} {w1 : Wd} {z1 : Int32} {w2 : Wd} {v1 : Int32} (hd : 1 ≤ d) (h1 : Ev (d - 1) 1 (ent0 1 [.ref 21, .ref 2] (hp E w)) (.inl none, hp E w1)) (a1 : (gF w1 0) = z1) (h2 : Ev (d - 1) 5 (ent0 5 [.ref 21, .ref 2, .int z1] (hp E w1)) (.inl (some (.int v1)), hp E w2)) : Ev d 70 (ent0 70 [.ref 1] (hp E w)) (.inl (some (.int v1)), hp E w2) := by
  refine Ev.run (c' := (8, [.ref 1], [.ref 2, .ref 21], hp E w)) hM_70 4 rfl ?_
  refine Ev.callR hd hM_70 rfl (y := 1) (as := [.ref 21, .ref 2]) (rest := []) rfl (Nat.le_of_ble_eq_true rfl) h1 ?_
  refine Ev.run (c' := (23, [.ref 1], [.int (gF w1 0), .ref 2, .ref 21], hp E w1)) hM_70 6 rfl ?_
  rw [← a1] at h2
  refine Ev.callR hd hM_70 rfl (y := 5) (as := [.ref 21, .ref 2, .int (gF w1 0)]) (rest := []) rfl (Nat.le_of_ble_eq_true rfl) h2 ?_
  refine Ev.run (c' := (26, [.ref 1], [.int v1], hp E w2)) hM_70 0 rfl ?_
  exact Ev.fin hM_70 rfl rfl
theorem hM_71 : mAt 71 = some km_X7_forced := rfl
theorem p71_e_b {E : Nat × (Nat → Int32)} {w : Wd} {d : Nat} {x1 : Int32} {w1 : Wd} {w2 : Wd} {v1 : Int32} (hd : 1 ≤ d) (h1 : Ev (d - 1) 76 (ent0 76 [.ref 1, .int x1] (hp E w)) (.inl none, hp E w1)) (h2 : Ev (d - 1) 27 (ent0 27 [.ref 2, .int x1] (hp E w1)) (.inl (some (.int v1)), hp E w2)) : Ev d 71 (ent0 71 [.ref 1, .int x1] (hp E w)) (.inl (some (.int v1)), hp E w2) := by
  refine Ev.run (c' := (2, [.ref 1, .int x1], [.int x1, .ref 1], hp E w)) hM_71 2 rfl ?_
  refine Ev.callR hd hM_71 rfl (y := 76) (as := [.ref 1, .int x1]) (rest := []) rfl (Nat.le_of_ble_eq_true rfl) h1 ?_
  refine Ev.run (c' := (10, [.ref 1, .int x1], [.int x1, .ref 2], hp E w1)) hM_71 3 rfl ?_
  refine Ev.callR hd hM_71 rfl (y := 27) (as := [.ref 2, .int x1]) (rest := []) rfl (Nat.le_of_ble_eq_true rfl) h2 ?_
  refine Ev.run (c' := (13, [.ref 1, .int x1], [.int v1], hp E w2)) hM_71 0 rfl ?_
  exact Ev.fin hM_71 rfl rfl
theorem hM_72 : mAt 72 = some km_X7_leastBlue := rfl
theorem p72_e_a {E : Nat × (Nat → Int32)} {w : Wd} {d : Nat} {w1 : Wd} {y : Int32} (hd : 1 ≤ d) (h1 : Ev (d - 1) 25 (ent0 25 [.ref 26, .ref 2] (hp E w)) (.inl none, hp E w1)) (q : (gF w1 6) = y) : Ev d 72 (ent0 72 [.ref 1] (hp E w)) (.inl (some (.int y)), hp E w1) := by
  subst q
  refine Ev.run (c' := (8, [.ref 1], [.ref 2, .ref 26], hp E w)) hM_72 4 rfl ?_
  refine Ev.callR hd hM_72 rfl (y := 25) (as := [.ref 26, .ref 2]) (rest := []) rfl (Nat.le_of_ble_eq_true rfl) h1 ?_
  refine Ev.run (c' := (15, [.ref 1], [.ref 26], hp E w1)) hM_72 2 rfl ?_
  refine Ev.callR hd hM_72 rfl (y := 26) (as := [.ref 26]) (rest := []) rfl (Nat.le_of_ble_eq_true rfl) (Ev.run (c' := (4, [.ref 26], [.int (gF w1 6)], hp E w1)) hM_26 2 rfl (Ev.fin hM_26 rfl rfl)) ?_
  refine Ev.run (c' := (18, [.ref 1], [.int (gF w1 6)], hp E w1)) hM_72 0 rfl ?_
  exact Ev.fin hM_72 rfl rfl
theorem hM_73 : mAt 73 = some km_X7_beginDeeds := rfl
theorem p73_e_a {E : Nat × (Nat → Int32)} {w : Wd} {d : Nat} {w1 : Wd} {w2 : Wd} {v1 : Int32} {w' : Wd} (hd : 1 ≤ d) (h1 : Ev (d - 1) 31 (ent0 31 [.ref 5] (hp E w)) (.inl none, hp E w1)) (h2 : Ev (d - 1) 42 (ent0 42 [.ref 2] (hp E w1)) (.inl (some (.int v1)), hp E w2)) (qw : (sF 0 v1 w2) = w') : Ev d 73 (ent0 73 [.ref 1] (hp E w)) (.inl none, hp E w') := by
  subst qw
  refine Ev.run (c' := (4, [.ref 1], [.ref 5], hp E w)) hM_73 2 rfl ?_
  refine Ev.callR hd hM_73 rfl (y := 31) (as := [.ref 5]) (rest := []) rfl (Nat.le_of_ble_eq_true rfl) h1 ?_
  refine Ev.run (c' := (12, [.ref 1], [.ref 2, .ref 1], hp E w1)) hM_73 3 rfl ?_
  refine Ev.callR hd hM_73 rfl (y := 42) (as := [.ref 2]) (rest := [.ref 1]) rfl (Nat.le_of_ble_eq_true rfl) h2 ?_
  refine Ev.run (c' := (18, [.ref 1], [], hp E (sF 0 v1 w2))) hM_73 1 rfl ?_
  exact Ev.fin hM_73 rfl rfl
theorem hM_74 : mAt 74 = some km_X7_needRoom := rfl
theorem p74_e_b {E : Nat × (Nat → Int32)} {w : Wd} {d : Nat} {x1 : Int32} {w1 : Wd} {v1 : Int32} (hd : 1 ≤ d) (h1 : Ev (d - 1) 41 (ent0 41 [.ref 2, .int x1] (hp E w)) (.inl (some (.int v1)), hp E w1)) (c1 : ¬ v1 = 0) : Ev d 74 (ent0 74 [.ref 1, .int x1] (hp E w)) (.inl none, hp E w1) := by
  refine Ev.run (c' := (5, [.ref 1, .int x1], [.int x1, .ref 2], hp E w)) hM_74 3 rfl ?_
  refine Ev.callR hd hM_74 rfl (y := 41) (as := [.ref 2, .int x1]) (rest := []) rfl (Nat.le_of_ble_eq_true rfl) h1 ?_
  refine Ev.run (c' := (8, [.ref 1, .int x1], [.int v1], hp E w1)) hM_74 0 rfl ?_
  refine Ev.ifT hM_74 rfl (cI_neT c1) ?_
  exact Ev.fin hM_74 rfl rfl
theorem hM_75 : mAt 75 = some km_X7_needBeginning := rfl
theorem p75_e_d {E : Nat × (Nat → Int32)} {w : Wd} {d : Nat} {x1 x2 x3 : Int32} {w1 : Wd} {w2 : Wd} {w3 : Wd} (hd : 1 ≤ d) (h1 : Ev (d - 1) 74 (ent0 74 [.ref 1, .int x1] (hp E w)) (.inl none, hp E w1)) (c1 : ¬ x2 = (-1 : Int32)) (h2 : Ev (d - 1) 74 (ent0 74 [.ref 1, .int x2] (hp E w1)) (.inl none, hp E w2)) (h3 : Ev (d - 1) 74 (ent0 74 [.ref 1, .int x3] (hp E w2)) (.inl none, hp E w3)) : Ev d 75 (ent0 75 [.ref 1, .int x1, .int x2, .int x3] (hp E w)) (.inl none, hp E w3) := by
  refine Ev.run (c' := (2, [.ref 1, .int x1, .int x2, .int x3], [.int x1, .ref 1], hp E w)) hM_75 2 rfl ?_
  refine Ev.callR hd hM_75 rfl (y := 74) (as := [.ref 1, .int x1]) (rest := []) rfl (Nat.le_of_ble_eq_true rfl) h1 ?_
  refine Ev.run (c' := (7, [.ref 1, .int x1, .int x2, .int x3], [.int (-1 : Int32), .int x2], hp E w1)) hM_75 2 rfl ?_
  refine Ev.icF hM_75 rfl (cI_eqF c1) ?_
  refine Ev.run (c' := (12, [.ref 1, .int x1, .int x2, .int x3], [.int x2, .ref 1], hp E w1)) hM_75 2 rfl ?_
  refine Ev.callR hd hM_75 rfl (y := 74) (as := [.ref 1, .int x2]) (rest := []) rfl (Nat.le_of_ble_eq_true rfl) h2 ?_
  refine Ev.run (c' := (17, [.ref 1, .int x1, .int x2, .int x3], [.int x3, .ref 1], hp E w2)) hM_75 2 rfl ?_
  refine Ev.callR hd hM_75 rfl (y := 74) (as := [.ref 1, .int x3]) (rest := []) rfl (Nat.le_of_ble_eq_true rfl) h3 ?_
  refine Ev.run (c' := (20, [.ref 1, .int x1, .int x2, .int x3], [], hp E w3)) hM_75 0 rfl ?_
  exact Ev.fin hM_75 rfl rfl
theorem p75_e_f {E : Nat × (Nat → Int32)} {w : Wd} {d : Nat} {x1 x2 x3 : Int32} {w1 : Wd} {w2 : Wd} (hd : 1 ≤ d) (h1 : Ev (d - 1) 74 (ent0 74 [.ref 1, .int x1] (hp E w)) (.inl none, hp E w1)) (c1 : x2 = (-1 : Int32)) (h2 : Ev (d - 1) 74 (ent0 74 [.ref 1, .int x3] (hp E w1)) (.inl none, hp E w2)) : Ev d 75 (ent0 75 [.ref 1, .int x1, .int x2, .int x3] (hp E w)) (.inl none, hp E w2) := by
  refine Ev.run (c' := (2, [.ref 1, .int x1, .int x2, .int x3], [.int x1, .ref 1], hp E w)) hM_75 2 rfl ?_
  refine Ev.callR hd hM_75 rfl (y := 74) (as := [.ref 1, .int x1]) (rest := []) rfl (Nat.le_of_ble_eq_true rfl) h1 ?_
  refine Ev.run (c' := (7, [.ref 1, .int x1, .int x2, .int x3], [.int (-1 : Int32), .int x2], hp E w1)) hM_75 2 rfl ?_
  refine Ev.icT hM_75 rfl (cI_eqT c1) ?_
  refine Ev.run (c' := (17, [.ref 1, .int x1, .int x2, .int x3], [.int x3, .ref 1], hp E w1)) hM_75 2 rfl ?_
  refine Ev.callR hd hM_75 rfl (y := 74) (as := [.ref 1, .int x3]) (rest := []) rfl (Nat.le_of_ble_eq_true rfl) h2 ?_
  refine Ev.run (c' := (20, [.ref 1, .int x1, .int x2, .int x3], [], hp E w2)) hM_75 0 rfl ?_
  exact Ev.fin hM_75 rfl rfl
theorem hM_76 : mAt 76 = some km_X7_needSet := rfl
theorem p76_e_b {E : Nat × (Nat → Int32)} {w : Wd} {d : Nat} {x1 : Int32} {w1 : Wd} {v1 : Int32} (hd : 1 ≤ d) (c1 : ¬ x1 < 0) (h1 : Ev (d - 1) 42 (ent0 42 [.ref 2] (hp E w)) (.inl (some (.int v1)), hp E w1)) (c2 : ¬ v1 < x1) : Ev d 76 (ent0 76 [.ref 1, .int x1] (hp E w)) (.inl none, hp E w1) := by
  refine Ev.run (c' := (1, [.ref 1, .int x1], [.int x1], hp E w)) hM_76 1 rfl ?_
  refine Ev.ifF hM_76 rfl (cI_ltF c1) ?_
  refine Ev.run (c' := (9, [.ref 1, .int x1], [.ref 2, .int x1], hp E w)) hM_76 3 rfl ?_
  refine Ev.callR hd hM_76 rfl (y := 42) (as := [.ref 2]) (rest := [.int x1]) rfl (Nat.le_of_ble_eq_true rfl) h1 ?_
  refine Ev.run (c' := (12, [.ref 1, .int x1], [.int v1, .int x1], hp E w1)) hM_76 0 rfl ?_
  refine Ev.icT hM_76 rfl (cI_leT c2) ?_
  exact Ev.fin hM_76 rfl rfl
theorem hM_77 : mAt 77 = some km_X7_needPlaceForDeed := rfl
theorem p77_e_b {E : Nat × (Nat → Int32)} {w : Wd} {d : Nat}  (hd : 1 ≤ d) (c1 : (gF w 3) < (200 : Int32)) : Ev d 77 (ent0 77 [.ref 1] (hp E w)) (.inl none, hp E w) := by
  refine Ev.run (c' := (4, [.ref 1], [.ref 5], hp E w)) hM_77 2 rfl ?_
  refine Ev.callR hd hM_77 rfl (y := 30) (as := [.ref 5]) (rest := []) rfl (Nat.le_of_ble_eq_true rfl) (Ev.run (c' := (4, [.ref 5], [.int (gF w 3)], hp E w)) hM_30 2 rfl (Ev.fin hM_30 rfl rfl)) ?_
  refine Ev.run (c' := (10, [.ref 1], [.int (200 : Int32), .int (gF w 3)], hp E w)) hM_77 1 rfl ?_
  refine Ev.icT hM_77 rfl (cI_ltT c1) ?_
  exact Ev.fin hM_77 rfl rfl
theorem hM_78 : mAt 78 = some km_X7_placeOf := rfl
theorem p78_e_a {E : Nat × (Nat → Int32)} {w : Wd} {d : Nat} {x0 : Int32}  (c1 : x0 = (-1 : Int32)) : Ev d 78 (ent0 78 [.int x0] (hp E w)) (.inl (some (.int (9 : Int32))), hp E w) := by
  refine Ev.run (c' := (2, [.int x0], [.int (-1 : Int32), .int x0], hp E w)) hM_78 2 rfl ?_
  refine Ev.icF hM_78 rfl (cI_neF c1) ?_
  refine Ev.run (c' := (11, [.int x0], [.int (9 : Int32)], hp E w)) hM_78 2 rfl ?_
  exact Ev.fin hM_78 rfl rfl
theorem p78_e_b {E : Nat × (Nat → Int32)} {w : Wd} {d : Nat} {x0 : Int32}  (c1 : ¬ x0 = (-1 : Int32)) : Ev d 78 (ent0 78 [.int x0] (hp E w)) (.inl (some (.int x0)), hp E w) := by
  refine Ev.run (c' := (2, [.int x0], [.int (-1 : Int32), .int x0], hp E w)) hM_78 2 rfl ?_
  refine Ev.icT hM_78 rfl (cI_neT c1) ?_
  refine Ev.run (c' := (11, [.int x0], [.int x0], hp E w)) hM_78 1 rfl ?_
  exact Ev.fin hM_78 rfl rfl
end
