section
theorem hM_1 : mAt 1 = some km_X0_prepare := rfl
theorem p1_e_a {E : Nat × (Nat → Int32)} {w : Wd} {d : Nat}  (hd : 1 ≤ d) (c1 : (gF w 5) = (gF w 2)) : Ev d 1 (ent0 1 [.ref 21, .ref 2] (hp E w)) (.inl none, hp E w) := by
  refine Ev.run (c' := (5, [.ref 21, .ref 2, jk, jk], [.ref 2, .int (gF w 5)], hp E w)) hM_1 3 rfl ?_
  refine Ev.callR hd hM_1 rfl (y := 40) (as := [.ref 2]) (rest := [.int (gF w 5)]) rfl (Nat.le_of_ble_eq_true rfl) (Ev.run (c' := (4, [.ref 2], [.int (gF w 2)], hp E w)) hM_40 2 rfl (Ev.fin hM_40 rfl rfl)) ?_
  refine Ev.run (c' := (8, [.ref 21, .ref 2, jk, jk], [.int (gF w 2), .int (gF w 5)], hp E w)) hM_1 0 rfl ?_
  refine Ev.icF hM_1 rfl (cI_neF c1) ?_
  exact Ev.fin hM_1 rfl rfl
theorem p1_e_b {E : Nat × (Nat → Int32)} {w : Wd} {d : Nat} {o : Ou}  (hd : 1 ≤ d) (c1 : ¬ (gF w 5) = (gF w 2)) (e : Ev d 1 (14, [.ref 21, .ref 2, .int (0 : Int32), jk], [], hp E w) o) : Ev d 1 (ent0 1 [.ref 21, .ref 2] (hp E w)) o := by
  refine Ev.run (c' := (5, [.ref 21, .ref 2, jk, jk], [.ref 2, .int (gF w 5)], hp E w)) hM_1 3 rfl ?_
  refine Ev.callR hd hM_1 rfl (y := 40) (as := [.ref 2]) (rest := [.int (gF w 5)]) rfl (Nat.le_of_ble_eq_true rfl) (Ev.run (c' := (4, [.ref 2], [.int (gF w 2)], hp E w)) hM_40 2 rfl (Ev.fin hM_40 rfl rfl)) ?_
  refine Ev.run (c' := (8, [.ref 21, .ref 2, jk, jk], [.int (gF w 2), .int (gF w 5)], hp E w)) hM_1 0 rfl ?_
  refine Ev.icT hM_1 rfl (cI_neT c1) ?_
  refine Ev.run (c' := (14, [.ref 21, .ref 2, .int (0 : Int32), jk], [], hp E w)) hM_1 2 rfl ?_
  exact e
theorem p1_14_a {E : Nat × (Nat → Int32)} {w : Wd} {d : Nat} {x2 : Int32} {o : Ou} {w1 : Wd} {v1 : Int32} {w2 : Wd} {v2 : Int32} {j1 : Nat} {y2 : Int32} {w' : Wd} (hd : 1 ≤ d) (h1 : Ev (d - 1) 42 (ent0 42 [.ref 2] (hp E w)) (.inl (some (.int v1)), hp E w1)) (c1 : ¬ v1 < x2) (h2 : Ev (d - 1) 49 (ent0 49 [.ref 2, .int x2] (hp E w1)) (.inl (some (.int v2)), hp E w2)) (g1 : x2 = I j1) (b1 : j1 < 2147483648) (q2 : ((I j1) + (1 : Int32)) = y2) (qw : (sA 8 (rp 512 (gA w2 8) j1 v2) w2) = w') (e : Ev d 1 (14, [.ref 21, .ref 2, .int y2, jk], [], hp E w') o) : Ev d 1 (14, [.ref 21, .ref 2, .int x2, jk], [], hp E w) o := by
  subst qw
  subst q2
  refine Ev.run (c' := (16, [.ref 21, .ref 2, .int x2, jk], [.ref 2, .int x2], hp E w)) hM_1 2 rfl ?_
  refine Ev.callR hd hM_1 rfl (y := 42) (as := [.ref 2]) (rest := [.int x2]) rfl (Nat.le_of_ble_eq_true rfl) h1 ?_
  refine Ev.run (c' := (19, [.ref 21, .ref 2, .int x2, jk], [.int v1, .int x2], hp E w1)) hM_1 0 rfl ?_
  refine Ev.icF hM_1 rfl (cI_gtF c1) ?_
  refine Ev.run (c' := (29, [.ref 21, .ref 2, .int x2, jk], [.int x2, .ref 2, .int x2, .ref 22], hp E w1)) hM_1 5 rfl ?_
  refine Ev.callR hd hM_1 rfl (y := 49) (as := [.ref 2, .int x2]) (rest := [.int x2, .ref 22]) rfl (Nat.le_of_ble_eq_true rfl) h2 ?_
  refine Ev.run (c' := (32, [.ref 21, .ref 2, .int x2, jk], [.int v2, .int x2, .ref 22], hp E w2)) hM_1 0 rfl ?_
  subst g1
  refine Ev.callR hd hM_1 rfl (y := 56) (as := [.ref 22, .int (I j1), .int v2]) (rest := []) rfl (Nat.le_of_ble_eq_true rfl) (row_put (a := 22) (b := 22) (n := 512) rfl rfl (by decide) b1 (h' := hp E (sA 8 (rp 512 (gA w2 8) j1 v2) w2)) rfl) ?_
  refine Ev.run (c' := (14, [.ref 21, .ref 2, .int ((I j1) + (1 : Int32)), jk], [], hp E (sA 8 (rp 512 (gA w2 8) j1 v2) w2))) hM_1 2 rfl ?_
  exact e
theorem p1_14_b {E : Nat × (Nat → Int32)} {w : Wd} {d : Nat} {x2 : Int32} {o : Ou} {w1 : Wd} {v1 : Int32} {j1 : Nat} {w' : Wd} (hd : 1 ≤ d) (h1 : Ev (d - 1) 42 (ent0 42 [.ref 2] (hp E w)) (.inl (some (.int v1)), hp E w1)) (c1 : v1 < x2) (g1 : (0 : Int32) = I j1) (b1 : j1 < 2147483648) (qw : (sA 9 (rp 512 (gA (sA 9 (ra 512 (gA w1 9) (-1 : Int32)) w1) 9) j1 (I j1)) (sA 9 (ra 512 (gA w1 9) (-1 : Int32)) w1)) = w') (e : Ev d 1 (62, [.ref 21, .ref 2, .int (1 : Int32), .int (1 : Int32)], [], hp E w') o) : Ev d 1 (14, [.ref 21, .ref 2, .int x2, jk], [], hp E w) o := by
  subst qw
  refine Ev.run (c' := (16, [.ref 21, .ref 2, .int x2, jk], [.ref 2, .int x2], hp E w)) hM_1 2 rfl ?_
  refine Ev.callR hd hM_1 rfl (y := 42) (as := [.ref 2]) (rest := [.int x2]) rfl (Nat.le_of_ble_eq_true rfl) h1 ?_
  refine Ev.run (c' := (19, [.ref 21, .ref 2, .int x2, jk], [.int v1, .int x2], hp E w1)) hM_1 0 rfl ?_
  refine Ev.icT hM_1 rfl (cI_gtT c1) ?_
  refine Ev.run (c' := (46, [.ref 21, .ref 2, .int x2, jk], [.int (-1 : Int32), .ref 24], hp E w1)) hM_1 3 rfl ?_
  refine Ev.callR hd hM_1 rfl (y := 57) (as := [.ref 24, .int (-1 : Int32)]) (rest := []) rfl (Nat.le_of_ble_eq_true rfl) (row_putAll (a := 24) (b := 24) (n := 512) rfl rfl (by decide) (by decide) (h' := hp E (sA 9 (ra 512 (gA w1 9) (-1 : Int32)) w1)) rfl) ?_
  refine Ev.run (c' := (55, [.ref 21, .ref 2, .int x2, jk], [.int (0 : Int32), .int (0 : Int32), .ref 24], hp E (sA 9 (ra 512 (gA w1 9) (-1 : Int32)) w1))) hM_1 4 rfl ?_
  rw [g1]
  refine Ev.callR hd hM_1 rfl (y := 56) (as := [.ref 24, .int (I j1), .int (I j1)]) (rest := []) rfl (Nat.le_of_ble_eq_true rfl) (row_put (a := 24) (b := 24) (n := 512) rfl rfl (by decide) b1 (h' := hp E (sA 9 (rp 512 (gA (sA 9 (ra 512 (gA w1 9) (-1 : Int32)) w1) 9) j1 (I j1)) (sA 9 (ra 512 (gA w1 9) (-1 : Int32)) w1))) rfl) ?_
  refine Ev.run (c' := (62, [.ref 21, .ref 2, .int (1 : Int32), .int (1 : Int32)], [], hp E (sA 9 (rp 512 (gA (sA 9 (ra 512 (gA w1 9) (-1 : Int32)) w1) 9) j1 (I j1)) (sA 9 (ra 512 (gA w1 9) (-1 : Int32)) w1)))) hM_1 4 rfl ?_
  exact e
theorem p1_62_a {E : Nat × (Nat → Int32)} {w : Wd} {d : Nat} {x2 x3 : Int32} {o : Ou} {w1 : Wd} {v1 : Int32} {y3 : Int32} (hd : 1 ≤ d) (c1 : ¬ x2 = 0) (c2 : ¬ (512 : Int32) < x3) (h1 : Ev (d - 1) 2 (ent0 2 [.ref 21, .ref 2, .int x3] (hp E w)) (.inl (some (.int v1)), hp E w1)) (q3 : (x3 + (1 : Int32)) = y3) (e : Ev d 1 (62, [.ref 21, .ref 2, .int v1, .int y3], [], hp E w1) o) : Ev d 1 (62, [.ref 21, .ref 2, .int x2, .int x3], [], hp E w) o := by
  subst q3
  refine Ev.run (c' := (63, [.ref 21, .ref 2, .int x2, .int x3], [.int x2], hp E w)) hM_1 1 rfl ?_
  refine Ev.ifF hM_1 rfl (cI_eqF c1) ?_
  refine Ev.run (c' := (70, [.ref 21, .ref 2, .int x2, .int x3], [.int (512 : Int32), .int x3], hp E w)) hM_1 2 rfl ?_
  refine Ev.icF hM_1 rfl (cI_gtF c2) ?_
  refine Ev.run (c' := (76, [.ref 21, .ref 2, .int x2, .int x3], [.int x3, .ref 2, .ref 21], hp E w)) hM_1 3 rfl ?_
  refine Ev.callR hd hM_1 rfl (y := 2) (as := [.ref 21, .ref 2, .int x3]) (rest := []) rfl (Nat.le_of_ble_eq_true rfl) h1 ?_
  refine Ev.run (c' := (62, [.ref 21, .ref 2, .int v1, .int (x3 + (1 : Int32))], [], hp E w1)) hM_1 3 rfl ?_
  exact e
theorem p1_62_b {E : Nat × (Nat → Int32)} {w : Wd} {d : Nat} {x2 x3 : Int32} {w' : Wd} (hd : 1 ≤ d) (c1 : ¬ x2 = 0) (c2 : (512 : Int32) < x3) (qw : (sF 5 (gF w 2) w) = w') : Ev d 1 (62, [.ref 21, .ref 2, .int x2, .int x3], [], hp E w) (.inl none, hp E w') := by
  subst qw
  refine Ev.run (c' := (63, [.ref 21, .ref 2, .int x2, .int x3], [.int x2], hp E w)) hM_1 1 rfl ?_
  refine Ev.ifF hM_1 rfl (cI_eqF c1) ?_
  refine Ev.run (c' := (70, [.ref 21, .ref 2, .int x2, .int x3], [.int (512 : Int32), .int x3], hp E w)) hM_1 2 rfl ?_
  refine Ev.icT hM_1 rfl (cI_gtT c2) ?_
  refine Ev.run (c' := (88, [.ref 21, .ref 2, .int x2, .int x3], [.ref 2, .ref 21], hp E w)) hM_1 2 rfl ?_
  refine Ev.callR hd hM_1 rfl (y := 40) (as := [.ref 2]) (rest := [.ref 21]) rfl (Nat.le_of_ble_eq_true rfl) (Ev.run (c' := (4, [.ref 2], [.int (gF w 2)], hp E w)) hM_40 2 rfl (Ev.fin hM_40 rfl rfl)) ?_
  refine Ev.run (c' := (94, [.ref 21, .ref 2, .int x2, .int x3], [], hp E (sF 5 (gF w 2) w))) hM_1 1 rfl ?_
  exact Ev.fin hM_1 rfl rfl
theorem p1_62_c {E : Nat × (Nat → Int32)} {w : Wd} {d : Nat} {x2 x3 : Int32} {w' : Wd} (hd : 1 ≤ d) (c1 : x2 = 0) (qw : (sF 5 (gF w 2) w) = w') : Ev d 1 (62, [.ref 21, .ref 2, .int x2, .int x3], [], hp E w) (.inl none, hp E w') := by
  subst qw
  refine Ev.run (c' := (63, [.ref 21, .ref 2, .int x2, .int x3], [.int x2], hp E w)) hM_1 1 rfl ?_
  refine Ev.ifT hM_1 rfl (cI_eqT c1) ?_
  refine Ev.run (c' := (88, [.ref 21, .ref 2, .int x2, .int x3], [.ref 2, .ref 21], hp E w)) hM_1 2 rfl ?_
  refine Ev.callR hd hM_1 rfl (y := 40) (as := [.ref 2]) (rest := [.ref 21]) rfl (Nat.le_of_ble_eq_true rfl) (Ev.run (c' := (4, [.ref 2], [.int (gF w 2)], hp E w)) hM_40 2 rfl (Ev.fin hM_40 rfl rfl)) ?_
  refine Ev.run (c' := (94, [.ref 21, .ref 2, .int x2, .int x3], [], hp E (sF 5 (gF w 2) w))) hM_1 1 rfl ?_
  exact Ev.fin hM_1 rfl rfl
theorem hM_2 : mAt 2 = some km_X0_findSets := rfl
theorem p2_e_a {E : Nat × (Nat → Int32)} {w : Wd} {d : Nat} {x2 : Int32} {o : Ou}  (e : Ev d 2 (5, [.ref 21, .ref 2, .int x2, .int (0 : Int32), .int (0 : Int32)], [], hp E w) o) : Ev d 2 (ent0 2 [.ref 21, .ref 2, .int x2] (hp E w)) o := by
  refine Ev.run (c' := (5, [.ref 21, .ref 2, .int x2, .int (0 : Int32), .int (0 : Int32)], [], hp E w)) hM_2 4 rfl ?_
  exact e
theorem p2_5_a {E : Nat × (Nat → Int32)} {w : Wd} {d : Nat} {x2 x3 x4 : Int32} {o : Ou} {w1 : Wd} {v1 : Int32} {j1 : Nat} {j2 : Nat} {z1 : Int32} {w2 : Wd} {v2 : Int32} {y3 : Int32} {y4 : Int32} (hd : 1 ≤ d) (h1 : Ev (d - 1) 42 (ent0 42 [.ref 2] (hp E w)) (.inl (some (.int v1)), hp E w1)) (c1 : ¬ v1 < x4) (g1 : x4 = I j1) (b1 : j1 < 2147483648) (g2 : (rv 512 (gA w1 8) j1) = I j2) (b2 : j2 < 2147483648) (c2 : (rv 512 (gA w1 9) j2) = (x2 - (1 : Int32))) (a1 : (I j1) = z1) (h2 : Ev (d - 1) 3 (ent0 3 [.ref 21, .ref 2, .int z1, .int x2] (hp E w1)) (.inl (some (.int v2)), hp E w2)) (q3 : (x3 ||| v2) = y3) (q4 : ((I j1) + (1 : Int32)) = y4) (e : Ev d 2 (5, [.ref 21, .ref 2, .int x2, .int y3, .int y4], [], hp E w2) o) : Ev d 2 (5, [.ref 21, .ref 2, .int x2, .int x3, .int x4], [], hp E w) o := by
  subst q4
  subst q3
  refine Ev.run (c' := (8, [.ref 21, .ref 2, .int x2, .int x3, .int x4], [.ref 2, .int x4], hp E w)) hM_2 2 rfl ?_
  refine Ev.callR hd hM_2 rfl (y := 42) (as := [.ref 2]) (rest := [.int x4]) rfl (Nat.le_of_ble_eq_true rfl) h1 ?_
  refine Ev.run (c' := (11, [.ref 21, .ref 2, .int x2, .int x3, .int x4], [.int v1, .int x4], hp E w1)) hM_2 0 rfl ?_
  refine Ev.icF hM_2 rfl (cI_gtF c1) ?_
  refine Ev.run (c' := (24, [.ref 21, .ref 2, .int x2, .int x3, .int x4], [.int x4, .ref 22, .ref 24], hp E w1)) hM_2 5 rfl ?_
  subst g1
  refine Ev.callR hd hM_2 rfl (y := 55) (as := [.ref 22, .int (I j1)]) (rest := [.ref 24]) rfl (Nat.le_of_ble_eq_true rfl) (row_at (a := 22) (b := 23) (n := 512) rfl rfl (by decide) b1) ?_
  refine Ev.run (c' := (27, [.ref 21, .ref 2, .int x2, .int x3, .int (I j1)], [.int (rv 512 (gA w1 8) j1), .ref 24], hp E w1)) hM_2 0 rfl ?_
  rw [g2]
  refine Ev.callR hd hM_2 rfl (y := 55) (as := [.ref 24, .int (I j2)]) (rest := []) rfl (Nat.le_of_ble_eq_true rfl) (row_at (a := 24) (b := 25) (n := 512) rfl rfl (by decide) b2) ?_
  refine Ev.run (c' := (33, [.ref 21, .ref 2, .int x2, .int x3, .int (I j1)], [.int (x2 - (1 : Int32)), .int (rv 512 (gA w1 9) j2)], hp E w1)) hM_2 3 rfl ?_
  refine Ev.icF hM_2 rfl (cI_neF c2) ?_
  refine Ev.run (c' := (42, [.ref 21, .ref 2, .int x2, .int x3, .int (I j1)], [.int x2, .int (I j1), .ref 2, .ref 21, .int x3], hp E w1)) hM_2 5 rfl ?_
  rw [← a1] at h2
  refine Ev.callR hd hM_2 rfl (y := 3) (as := [.ref 21, .ref 2, .int (I j1), .int x2]) (rest := [.int x3]) rfl (Nat.le_of_ble_eq_true rfl) h2 ?_
  refine Ev.run (c' := (5, [.ref 21, .ref 2, .int x2, .int (x3 ||| v2), .int ((I j1) + (1 : Int32))], [], hp E w2)) hM_2 4 rfl ?_
  exact e
theorem p2_5_b {E : Nat × (Nat → Int32)} {w : Wd} {d : Nat} {x2 x3 x4 : Int32} {o : Ou} {w1 : Wd} {v1 : Int32} {j1 : Nat} {j2 : Nat} {y4 : Int32} (hd : 1 ≤ d) (h1 : Ev (d - 1) 42 (ent0 42 [.ref 2] (hp E w)) (.inl (some (.int v1)), hp E w1)) (c1 : ¬ v1 < x4) (g1 : x4 = I j1) (b1 : j1 < 2147483648) (g2 : (rv 512 (gA w1 8) j1) = I j2) (b2 : j2 < 2147483648) (c2 : ¬ (rv 512 (gA w1 9) j2) = (x2 - (1 : Int32))) (q4 : ((I j1) + (1 : Int32)) = y4) (e : Ev d 2 (5, [.ref 21, .ref 2, .int x2, .int x3, .int y4], [], hp E w1) o) : Ev d 2 (5, [.ref 21, .ref 2, .int x2, .int x3, .int x4], [], hp E w) o := by
  subst q4
  refine Ev.run (c' := (8, [.ref 21, .ref 2, .int x2, .int x3, .int x4], [.ref 2, .int x4], hp E w)) hM_2 2 rfl ?_
  refine Ev.callR hd hM_2 rfl (y := 42) (as := [.ref 2]) (rest := [.int x4]) rfl (Nat.le_of_ble_eq_true rfl) h1 ?_
  refine Ev.run (c' := (11, [.ref 21, .ref 2, .int x2, .int x3, .int x4], [.int v1, .int x4], hp E w1)) hM_2 0 rfl ?_
  refine Ev.icF hM_2 rfl (cI_gtF c1) ?_
  refine Ev.run (c' := (24, [.ref 21, .ref 2, .int x2, .int x3, .int x4], [.int x4, .ref 22, .ref 24], hp E w1)) hM_2 5 rfl ?_
  subst g1
  refine Ev.callR hd hM_2 rfl (y := 55) (as := [.ref 22, .int (I j1)]) (rest := [.ref 24]) rfl (Nat.le_of_ble_eq_true rfl) (row_at (a := 22) (b := 23) (n := 512) rfl rfl (by decide) b1) ?_
  refine Ev.run (c' := (27, [.ref 21, .ref 2, .int x2, .int x3, .int (I j1)], [.int (rv 512 (gA w1 8) j1), .ref 24], hp E w1)) hM_2 0 rfl ?_
  rw [g2]
  refine Ev.callR hd hM_2 rfl (y := 55) (as := [.ref 24, .int (I j2)]) (rest := []) rfl (Nat.le_of_ble_eq_true rfl) (row_at (a := 24) (b := 25) (n := 512) rfl rfl (by decide) b2) ?_
  refine Ev.run (c' := (33, [.ref 21, .ref 2, .int x2, .int x3, .int (I j1)], [.int (x2 - (1 : Int32)), .int (rv 512 (gA w1 9) j2)], hp E w1)) hM_2 3 rfl ?_
  refine Ev.icT hM_2 rfl (cI_neT c2) ?_
  refine Ev.run (c' := (5, [.ref 21, .ref 2, .int x2, .int x3, .int ((I j1) + (1 : Int32))], [], hp E w1)) hM_2 2 rfl ?_
  exact e
theorem p2_5_c {E : Nat × (Nat → Int32)} {w : Wd} {d : Nat} {x2 x3 x4 : Int32} {w1 : Wd} {v1 : Int32} (hd : 1 ≤ d) (h1 : Ev (d - 1) 42 (ent0 42 [.ref 2] (hp E w)) (.inl (some (.int v1)), hp E w1)) (c1 : v1 < x4) (hb : x3 &&& 1 = x3) : Ev d 2 (5, [.ref 21, .ref 2, .int x2, .int x3, .int x4], [], hp E w) (.inl (some (.int x3)), hp E w1) := by
  refine Ev.run (c' := (8, [.ref 21, .ref 2, .int x2, .int x3, .int x4], [.ref 2, .int x4], hp E w)) hM_2 2 rfl ?_
  refine Ev.callR hd hM_2 rfl (y := 42) (as := [.ref 2]) (rest := [.int x4]) rfl (Nat.le_of_ble_eq_true rfl) h1 ?_
  refine Ev.run (c' := (11, [.ref 21, .ref 2, .int x2, .int x3, .int x4], [.int v1, .int x4], hp E w1)) hM_2 0 rfl ?_
  refine Ev.icT hM_2 rfl (cI_gtT c1) ?_
  refine Ev.run (c' := (54, [.ref 21, .ref 2, .int x2, .int x3, .int x4], [.int x3], hp E w1)) hM_2 1 rfl ?_
  exact Ev.finZ hM_2 rfl rfl hb
theorem hM_3 : mAt 3 = some km_X0_addSets := rfl
theorem p3_e_a {E : Nat × (Nat → Int32)} {w : Wd} {d : Nat} {x2 x3 : Int32} {o : Ou}  (e : Ev d 3 (6, [.ref 21, .ref 2, .int x2, .int x3, .int (0 : Int32), .int (0 : Int32), jk], [], hp E w) o) : Ev d 3 (ent0 3 [.ref 21, .ref 2, .int x2, .int x3] (hp E w)) o := by
  refine Ev.run (c' := (6, [.ref 21, .ref 2, .int x2, .int x3, .int (0 : Int32), .int (0 : Int32), jk], [], hp E w)) hM_3 4 rfl ?_
  exact e
theorem p3_6_a {E : Nat × (Nat → Int32)} {w : Wd} {d : Nat} {x2 x3 x4 x5 : Int32} {u6 : Value} {o : Ou} {j1 : Nat} {y5 : Int32} {w' : Wd} (hd : 1 ≤ d) (c1 : x5 < (gF w 1)) (g1 : (x2 ||| ((1 : Int32) <<< (x5 &&& 31))) = I j1) (b1 : j1 < 2147483648) (c2 : (rv 512 (gA w 9) j1) = (-1 : Int32)) (q5 : (x5 + (1 : Int32)) = y5) (qw : (sA 9 (rp 512 (gA w 9) j1 x3) w) = w') (e : Ev d 3 (6, [.ref 21, .ref 2, .int x2, .int x3, .int (1 : Int32), .int y5, .int (I j1)], [], hp E w') o) : Ev d 3 (6, [.ref 21, .ref 2, .int x2, .int x3, .int x4, .int x5, u6], [], hp E w) o := by
  subst qw
  subst q5
  refine Ev.run (c' := (9, [.ref 21, .ref 2, .int x2, .int x3, .int x4, .int x5, u6], [.ref 2, .int x5], hp E w)) hM_3 2 rfl ?_
  refine Ev.callR hd hM_3 rfl (y := 39) (as := [.ref 2]) (rest := [.int x5]) rfl (Nat.le_of_ble_eq_true rfl) (Ev.run (c' := (4, [.ref 2], [.int (gF w 1)], hp E w)) hM_39 2 rfl (Ev.fin hM_39 rfl rfl)) ?_
  refine Ev.run (c' := (12, [.ref 21, .ref 2, .int x2, .int x3, .int x4, .int x5, u6], [.int (gF w 1), .int x5], hp E w)) hM_3 0 rfl ?_
  refine Ev.icF hM_3 rfl (cI_geF c1) ?_
  refine Ev.run (c' := (29, [.ref 21, .ref 2, .int x2, .int x3, .int x4, .int x5, .int (x2 ||| ((1 : Int32) <<< (x5 &&& 31)))], [.int (x2 ||| ((1 : Int32) <<< (x5 &&& 31))), .ref 24], hp E w)) hM_3 9 rfl ?_
  rw [g1]
  refine Ev.callR hd hM_3 rfl (y := 55) (as := [.ref 24, .int (I j1)]) (rest := []) rfl (Nat.le_of_ble_eq_true rfl) (row_at (a := 24) (b := 25) (n := 512) rfl rfl (by decide) b1) ?_
  refine Ev.run (c' := (33, [.ref 21, .ref 2, .int x2, .int x3, .int x4, .int x5, .int (I j1)], [.int (-1 : Int32), .int (rv 512 (gA w 9) j1)], hp E w)) hM_3 1 rfl ?_
  refine Ev.icF hM_3 rfl (cI_neF c2) ?_
  refine Ev.run (c' := (43, [.ref 21, .ref 2, .int x2, .int x3, .int x4, .int x5, .int (I j1)], [.int x3, .int (I j1), .ref 24], hp E w)) hM_3 4 rfl ?_
  refine Ev.callR hd hM_3 rfl (y := 56) (as := [.ref 24, .int (I j1), .int x3]) (rest := []) rfl (Nat.le_of_ble_eq_true rfl) (row_put (a := 24) (b := 24) (n := 512) rfl rfl (by decide) b1 (h' := hp E (sA 9 (rp 512 (gA w 9) j1 x3) w)) rfl) ?_
  refine Ev.run (c' := (6, [.ref 21, .ref 2, .int x2, .int x3, .int (1 : Int32), .int (x5 + (1 : Int32)), .int (I j1)], [], hp E (sA 9 (rp 512 (gA w 9) j1 x3) w))) hM_3 4 rfl ?_
  exact e
theorem p3_6_b {E : Nat × (Nat → Int32)} {w : Wd} {d : Nat} {x2 x3 x4 x5 : Int32} {u6 : Value} {o : Ou} {j1 : Nat} {y5 : Int32} (hd : 1 ≤ d) (c1 : x5 < (gF w 1)) (g1 : (x2 ||| ((1 : Int32) <<< (x5 &&& 31))) = I j1) (b1 : j1 < 2147483648) (c2 : ¬ (rv 512 (gA w 9) j1) = (-1 : Int32)) (q5 : (x5 + (1 : Int32)) = y5) (e : Ev d 3 (6, [.ref 21, .ref 2, .int x2, .int x3, .int x4, .int y5, .int (I j1)], [], hp E w) o) : Ev d 3 (6, [.ref 21, .ref 2, .int x2, .int x3, .int x4, .int x5, u6], [], hp E w) o := by
  subst q5
  refine Ev.run (c' := (9, [.ref 21, .ref 2, .int x2, .int x3, .int x4, .int x5, u6], [.ref 2, .int x5], hp E w)) hM_3 2 rfl ?_
  refine Ev.callR hd hM_3 rfl (y := 39) (as := [.ref 2]) (rest := [.int x5]) rfl (Nat.le_of_ble_eq_true rfl) (Ev.run (c' := (4, [.ref 2], [.int (gF w 1)], hp E w)) hM_39 2 rfl (Ev.fin hM_39 rfl rfl)) ?_
  refine Ev.run (c' := (12, [.ref 21, .ref 2, .int x2, .int x3, .int x4, .int x5, u6], [.int (gF w 1), .int x5], hp E w)) hM_3 0 rfl ?_
  refine Ev.icF hM_3 rfl (cI_geF c1) ?_
  refine Ev.run (c' := (29, [.ref 21, .ref 2, .int x2, .int x3, .int x4, .int x5, .int (x2 ||| ((1 : Int32) <<< (x5 &&& 31)))], [.int (x2 ||| ((1 : Int32) <<< (x5 &&& 31))), .ref 24], hp E w)) hM_3 9 rfl ?_
  rw [g1]
  refine Ev.callR hd hM_3 rfl (y := 55) (as := [.ref 24, .int (I j1)]) (rest := []) rfl (Nat.le_of_ble_eq_true rfl) (row_at (a := 24) (b := 25) (n := 512) rfl rfl (by decide) b1) ?_
  refine Ev.run (c' := (33, [.ref 21, .ref 2, .int x2, .int x3, .int x4, .int x5, .int (I j1)], [.int (-1 : Int32), .int (rv 512 (gA w 9) j1)], hp E w)) hM_3 1 rfl ?_
  refine Ev.icT hM_3 rfl (cI_neT c2) ?_
  refine Ev.run (c' := (6, [.ref 21, .ref 2, .int x2, .int x3, .int x4, .int (x5 + (1 : Int32)), .int (I j1)], [], hp E w)) hM_3 2 rfl ?_
  exact e
theorem p3_6_c {E : Nat × (Nat → Int32)} {w : Wd} {d : Nat} {x2 x3 x4 x5 : Int32} {u6 : Value}  (hd : 1 ≤ d) (c1 : ¬ x5 < (gF w 1)) (hb : x4 &&& 1 = x4) : Ev d 3 (6, [.ref 21, .ref 2, .int x2, .int x3, .int x4, .int x5, u6], [], hp E w) (.inl (some (.int x4)), hp E w) := by
  refine Ev.run (c' := (9, [.ref 21, .ref 2, .int x2, .int x3, .int x4, .int x5, u6], [.ref 2, .int x5], hp E w)) hM_3 2 rfl ?_
  refine Ev.callR hd hM_3 rfl (y := 39) (as := [.ref 2]) (rest := [.int x5]) rfl (Nat.le_of_ble_eq_true rfl) (Ev.run (c' := (4, [.ref 2], [.int (gF w 1)], hp E w)) hM_39 2 rfl (Ev.fin hM_39 rfl rfl)) ?_
  refine Ev.run (c' := (12, [.ref 21, .ref 2, .int x2, .int x3, .int x4, .int x5, u6], [.int (gF w 1), .int x5], hp E w)) hM_3 0 rfl ?_
  refine Ev.icT hM_3 rfl (cI_geT c1) ?_
  refine Ev.run (c' := (57, [.ref 21, .ref 2, .int x2, .int x3, .int x4, .int x5, u6], [.int x4], hp E w)) hM_3 1 rfl ?_
  exact Ev.finZ hM_3 rfl rfl hb
theorem hM_4 : mAt 4 = some km_X0_fewestShots := rfl
theorem p4_e_a {E : Nat × (Nat → Int32)} {w : Wd} {d : Nat} {x1 : Int32} {j1 : Nat} {y : Int32} (hd : 1 ≤ d) (g1 : x1 = I j1) (b1 : j1 < 2147483648) (q : (rv 512 (gA w 9) j1) = y) : Ev d 4 (ent0 4 [.ref 21, .int x1] (hp E w)) (.inl (some (.int y)), hp E w) := by
  subst q
  refine Ev.run (c' := (5, [.ref 21, .int x1], [.int x1, .ref 24], hp E w)) hM_4 3 rfl ?_
  subst g1
  refine Ev.callR hd hM_4 rfl (y := 55) (as := [.ref 24, .int (I j1)]) (rest := []) rfl (Nat.le_of_ble_eq_true rfl) (row_at (a := 24) (b := 25) (n := 512) rfl rfl (by decide) b1) ?_
  refine Ev.run (c' := (8, [.ref 21, .int (I j1)], [.int (rv 512 (gA w 9) j1)], hp E w)) hM_4 0 rfl ?_
  exact Ev.fin hM_4 rfl rfl
theorem hM_5 : mAt 5 = some km_X0_bestShot := rfl
theorem p5_e_a {E : Nat × (Nat → Int32)} {w : Wd} {d : Nat} {x2 : Int32} {w1 : Wd} {v1 : Int32} (hd : 1 ≤ d) (h1 : Ev (d - 1) 4 (ent0 4 [.ref 21, .int x2] (hp E w)) (.inl (some (.int v1)), hp E w1)) (c1 : ¬ 0 < v1) : Ev d 5 (ent0 5 [.ref 21, .ref 2, .int x2] (hp E w)) (.inl (some (.int (-1 : Int32))), hp E w1) := by
  refine Ev.run (c' := (2, [.ref 21, .ref 2, .int x2, jk, jk], [.int x2, .ref 21], hp E w)) hM_5 2 rfl ?_
  refine Ev.callR hd hM_5 rfl (y := 4) (as := [.ref 21, .int x2]) (rest := []) rfl (Nat.le_of_ble_eq_true rfl) h1 ?_
  refine Ev.run (c' := (7, [.ref 21, .ref 2, .int x2, .int v1, jk], [.int v1], hp E w1)) hM_5 2 rfl ?_
  refine Ev.ifF hM_5 rfl (cI_gtF c1) ?_
  refine Ev.run (c' := (11, [.ref 21, .ref 2, .int x2, .int v1, jk], [.int (-1 : Int32)], hp E w1)) hM_5 1 rfl ?_
  exact Ev.fin hM_5 rfl rfl
theorem p5_e_b {E : Nat × (Nat → Int32)} {w : Wd} {d : Nat} {x2 : Int32} {o : Ou} {w1 : Wd} {v1 : Int32} (hd : 1 ≤ d) (h1 : Ev (d - 1) 4 (ent0 4 [.ref 21, .int x2] (hp E w)) (.inl (some (.int v1)), hp E w1)) (c1 : 0 < v1) (e : Ev d 5 (15, [.ref 21, .ref 2, .int x2, .int v1, .int (0 : Int32)], [], hp E w1) o) : Ev d 5 (ent0 5 [.ref 21, .ref 2, .int x2] (hp E w)) o := by
  refine Ev.run (c' := (2, [.ref 21, .ref 2, .int x2, jk, jk], [.int x2, .ref 21], hp E w)) hM_5 2 rfl ?_
  refine Ev.callR hd hM_5 rfl (y := 4) (as := [.ref 21, .int x2]) (rest := []) rfl (Nat.le_of_ble_eq_true rfl) h1 ?_
  refine Ev.run (c' := (7, [.ref 21, .ref 2, .int x2, .int v1, jk], [.int v1], hp E w1)) hM_5 2 rfl ?_
  refine Ev.ifT hM_5 rfl (cI_gtT c1) ?_
  refine Ev.run (c' := (15, [.ref 21, .ref 2, .int x2, .int v1, .int (0 : Int32)], [], hp E w1)) hM_5 2 rfl ?_
  exact e
theorem p5_15_a {E : Nat × (Nat → Int32)} {w : Wd} {d : Nat} {x2 x3 x4 : Int32} {j1 : Nat} {z1 : Int32} {w1 : Wd} {v1 : Int32} (hd : 1 ≤ d) (c1 : x4 < (gF w 1)) (g1 : (x2 &&& (((1 : Int32) <<< (x4 &&& 31)) ^^^ (-1 : Int32))) = I j1) (b1 : j1 < 2147483648) (a1 : (rv 512 (gA w 8) j1) = z1) (h1 : Ev (d - 1) 4 (ent0 4 [.ref 21, .int z1] (hp E w)) (.inl (some (.int v1)), hp E w1)) (c2 : v1 = (x3 - (1 : Int32))) : Ev d 5 (15, [.ref 21, .ref 2, .int x2, .int x3, .int x4], [], hp E w) (.inl (some (.int x4)), hp E w1) := by
  refine Ev.run (c' := (18, [.ref 21, .ref 2, .int x2, .int x3, .int x4], [.ref 2, .int x4], hp E w)) hM_5 2 rfl ?_
  refine Ev.callR hd hM_5 rfl (y := 39) (as := [.ref 2]) (rest := [.int x4]) rfl (Nat.le_of_ble_eq_true rfl) (Ev.run (c' := (4, [.ref 2], [.int (gF w 1)], hp E w)) hM_39 2 rfl (Ev.fin hM_39 rfl rfl)) ?_
  refine Ev.run (c' := (21, [.ref 21, .ref 2, .int x2, .int x3, .int x4], [.int (gF w 1), .int x4], hp E w)) hM_5 0 rfl ?_
  refine Ev.icF hM_5 rfl (cI_geF c1) ?_
  refine Ev.run (c' := (37, [.ref 21, .ref 2, .int x2, .int x3, .int x4], [.int (x2 &&& (((1 : Int32) <<< (x4 &&& 31)) ^^^ (-1 : Int32))), .ref 22, .ref 21], hp E w)) hM_5 10 rfl ?_
  rw [g1]
  refine Ev.callR hd hM_5 rfl (y := 55) (as := [.ref 22, .int (I j1)]) (rest := [.ref 21]) rfl (Nat.le_of_ble_eq_true rfl) (row_at (a := 22) (b := 23) (n := 512) rfl rfl (by decide) b1) ?_
  refine Ev.run (c' := (40, [.ref 21, .ref 2, .int x2, .int x3, .int x4], [.int (rv 512 (gA w 8) j1), .ref 21], hp E w)) hM_5 0 rfl ?_
  rw [← a1] at h1
  refine Ev.callR hd hM_5 rfl (y := 4) (as := [.ref 21, .int (rv 512 (gA w 8) j1)]) (rest := []) rfl (Nat.le_of_ble_eq_true rfl) h1 ?_
  refine Ev.run (c' := (46, [.ref 21, .ref 2, .int x2, .int x3, .int x4], [.int (x3 - (1 : Int32)), .int v1], hp E w1)) hM_5 3 rfl ?_
  refine Ev.icF hM_5 rfl (cI_neF c2) ?_
  refine Ev.run (c' := (51, [.ref 21, .ref 2, .int x2, .int x3, .int x4], [.int x4], hp E w1)) hM_5 1 rfl ?_
  exact Ev.fin hM_5 rfl rfl
theorem p5_15_b {E : Nat × (Nat → Int32)} {w : Wd} {d : Nat} {x2 x3 x4 : Int32} {o : Ou} {j1 : Nat} {z1 : Int32} {w1 : Wd} {v1 : Int32} {y4 : Int32} (hd : 1 ≤ d) (c1 : x4 < (gF w 1)) (g1 : (x2 &&& (((1 : Int32) <<< (x4 &&& 31)) ^^^ (-1 : Int32))) = I j1) (b1 : j1 < 2147483648) (a1 : (rv 512 (gA w 8) j1) = z1) (h1 : Ev (d - 1) 4 (ent0 4 [.ref 21, .int z1] (hp E w)) (.inl (some (.int v1)), hp E w1)) (c2 : ¬ v1 = (x3 - (1 : Int32))) (q4 : (x4 + (1 : Int32)) = y4) (e : Ev d 5 (15, [.ref 21, .ref 2, .int x2, .int x3, .int y4], [], hp E w1) o) : Ev d 5 (15, [.ref 21, .ref 2, .int x2, .int x3, .int x4], [], hp E w) o := by
  subst q4
  refine Ev.run (c' := (18, [.ref 21, .ref 2, .int x2, .int x3, .int x4], [.ref 2, .int x4], hp E w)) hM_5 2 rfl ?_
  refine Ev.callR hd hM_5 rfl (y := 39) (as := [.ref 2]) (rest := [.int x4]) rfl (Nat.le_of_ble_eq_true rfl) (Ev.run (c' := (4, [.ref 2], [.int (gF w 1)], hp E w)) hM_39 2 rfl (Ev.fin hM_39 rfl rfl)) ?_
  refine Ev.run (c' := (21, [.ref 21, .ref 2, .int x2, .int x3, .int x4], [.int (gF w 1), .int x4], hp E w)) hM_5 0 rfl ?_
  refine Ev.icF hM_5 rfl (cI_geF c1) ?_
  refine Ev.run (c' := (37, [.ref 21, .ref 2, .int x2, .int x3, .int x4], [.int (x2 &&& (((1 : Int32) <<< (x4 &&& 31)) ^^^ (-1 : Int32))), .ref 22, .ref 21], hp E w)) hM_5 10 rfl ?_
  rw [g1]
  refine Ev.callR hd hM_5 rfl (y := 55) (as := [.ref 22, .int (I j1)]) (rest := [.ref 21]) rfl (Nat.le_of_ble_eq_true rfl) (row_at (a := 22) (b := 23) (n := 512) rfl rfl (by decide) b1) ?_
  refine Ev.run (c' := (40, [.ref 21, .ref 2, .int x2, .int x3, .int x4], [.int (rv 512 (gA w 8) j1), .ref 21], hp E w)) hM_5 0 rfl ?_
  rw [← a1] at h1
  refine Ev.callR hd hM_5 rfl (y := 4) (as := [.ref 21, .int (rv 512 (gA w 8) j1)]) (rest := []) rfl (Nat.le_of_ble_eq_true rfl) h1 ?_
  refine Ev.run (c' := (46, [.ref 21, .ref 2, .int x2, .int x3, .int x4], [.int (x3 - (1 : Int32)), .int v1], hp E w1)) hM_5 3 rfl ?_
  refine Ev.icT hM_5 rfl (cI_neT c2) ?_
  refine Ev.run (c' := (15, [.ref 21, .ref 2, .int x2, .int x3, .int (x4 + (1 : Int32))], [], hp E w1)) hM_5 2 rfl ?_
  exact e
theorem p5_15_c {E : Nat × (Nat → Int32)} {w : Wd} {d : Nat} {x2 x3 x4 : Int32}  (hd : 1 ≤ d) (c1 : ¬ x4 < (gF w 1)) : Ev d 5 (15, [.ref 21, .ref 2, .int x2, .int x3, .int x4], [], hp E w) (.inl (some (.int (-1 : Int32))), hp E w) := by
  refine Ev.run (c' := (18, [.ref 21, .ref 2, .int x2, .int x3, .int x4], [.ref 2, .int x4], hp E w)) hM_5 2 rfl ?_
  refine Ev.callR hd hM_5 rfl (y := 39) (as := [.ref 2]) (rest := [.int x4]) rfl (Nat.le_of_ble_eq_true rfl) (Ev.run (c' := (4, [.ref 2], [.int (gF w 1)], hp E w)) hM_39 2 rfl (Ev.fin hM_39 rfl rfl)) ?_
  refine Ev.run (c' := (21, [.ref 21, .ref 2, .int x2, .int x3, .int x4], [.int (gF w 1), .int x4], hp E w)) hM_5 0 rfl ?_
  refine Ev.icT hM_5 rfl (cI_geT c1) ?_
  refine Ev.run (c' := (59, [.ref 21, .ref 2, .int x2, .int x3, .int x4], [.int (-1 : Int32)], hp E w)) hM_5 1 rfl ?_
  exact Ev.fin hM_5 rfl rfl
theorem hM_7 : mAt 7 = some km_X1_prepare := rfl
theorem p7_e_a {E : Nat × (Nat → Int32)} {w : Wd} {d : Nat}  (hd : 1 ≤ d) (c1 : (gF w 4) = (gF w 2)) : Ev d 7 (ent0 7 [.ref 12, .ref 2] (hp E w)) (.inl none, hp E w) := by
  refine Ev.run (c' := (5, [.ref 12, .ref 2, jk, jk], [.ref 2, .int (gF w 4)], hp E w)) hM_7 3 rfl ?_
  refine Ev.callR hd hM_7 rfl (y := 40) (as := [.ref 2]) (rest := [.int (gF w 4)]) rfl (Nat.le_of_ble_eq_true rfl) (Ev.run (c' := (4, [.ref 2], [.int (gF w 2)], hp E w)) hM_40 2 rfl (Ev.fin hM_40 rfl rfl)) ?_
  refine Ev.run (c' := (8, [.ref 12, .ref 2, jk, jk], [.int (gF w 2), .int (gF w 4)], hp E w)) hM_7 0 rfl ?_
  refine Ev.icF hM_7 rfl (cI_neF c1) ?_
  exact Ev.fin hM_7 rfl rfl
theorem p7_e_b {E : Nat × (Nat → Int32)} {w : Wd} {d : Nat} {o : Ou} {w1 : Wd} (hd : 1 ≤ d) (c1 : ¬ (gF w 4) = (gF w 2)) (h1 : Ev (d - 1) 10 (ent0 10 [.ref 12, .ref 2] (hp E w)) (.inl none, hp E w1)) (e : Ev d 7 (21, [.ref 12, .ref 2, .int (1 : Int32), .int (1 : Int32)], [], hp E w1) o) : Ev d 7 (ent0 7 [.ref 12, .ref 2] (hp E w)) o := by
  refine Ev.run (c' := (5, [.ref 12, .ref 2, jk, jk], [.ref 2, .int (gF w 4)], hp E w)) hM_7 3 rfl ?_
  refine Ev.callR hd hM_7 rfl (y := 40) (as := [.ref 2]) (rest := [.int (gF w 4)]) rfl (Nat.le_of_ble_eq_true rfl) (Ev.run (c' := (4, [.ref 2], [.int (gF w 2)], hp E w)) hM_40 2 rfl (Ev.fin hM_40 rfl rfl)) ?_
  refine Ev.run (c' := (8, [.ref 12, .ref 2, jk, jk], [.int (gF w 2), .int (gF w 4)], hp E w)) hM_7 0 rfl ?_
  refine Ev.icT hM_7 rfl (cI_neT c1) ?_
  refine Ev.run (c' := (14, [.ref 12, .ref 2, jk, jk], [.ref 2, .ref 12], hp E w)) hM_7 2 rfl ?_
  refine Ev.callR hd hM_7 rfl (y := 10) (as := [.ref 12, .ref 2]) (rest := []) rfl (Nat.le_of_ble_eq_true rfl) h1 ?_
  refine Ev.run (c' := (21, [.ref 12, .ref 2, .int (1 : Int32), .int (1 : Int32)], [], hp E w1)) hM_7 4 rfl ?_
  exact e
theorem p7_21_a {E : Nat × (Nat → Int32)} {w : Wd} {d : Nat} {x2 x3 : Int32} {o : Ou} {w1 : Wd} {w2 : Wd} {w3 : Wd} {v1 : Int32} {y3 : Int32} (hd : 1 ≤ d) (c1 : ¬ x2 = 0) (c2 : ¬ (810 : Int32) < x3) (h1 : Ev (d - 1) 12 (ent0 12 [.ref 12, .ref 2] (hp E w)) (.inl none, hp E w1)) (h2 : Ev (d - 1) 14 (ent0 14 [.ref 12, .ref 2] (hp E w1)) (.inl none, hp E w2)) (h3 : Ev (d - 1) 15 (ent0 15 [.ref 12, .ref 2, .int x3] (hp E w2)) (.inl (some (.int v1)), hp E w3)) (q3 : (x3 + (1 : Int32)) = y3) (e : Ev d 7 (21, [.ref 12, .ref 2, .int v1, .int y3], [], hp E w3) o) : Ev d 7 (21, [.ref 12, .ref 2, .int x2, .int x3], [], hp E w) o := by
  subst q3
  refine Ev.run (c' := (22, [.ref 12, .ref 2, .int x2, .int x3], [.int x2], hp E w)) hM_7 1 rfl ?_
  refine Ev.ifF hM_7 rfl (cI_eqF c1) ?_
  refine Ev.run (c' := (29, [.ref 12, .ref 2, .int x2, .int x3], [.int (810 : Int32), .int x3], hp E w)) hM_7 2 rfl ?_
  refine Ev.icF hM_7 rfl (cI_gtF c2) ?_
  refine Ev.run (c' := (34, [.ref 12, .ref 2, .int x2, .int x3], [.ref 2, .ref 12], hp E w)) hM_7 2 rfl ?_
  refine Ev.callR hd hM_7 rfl (y := 12) (as := [.ref 12, .ref 2]) (rest := []) rfl (Nat.le_of_ble_eq_true rfl) h1 ?_
  refine Ev.run (c' := (39, [.ref 12, .ref 2, .int x2, .int x3], [.ref 2, .ref 12], hp E w1)) hM_7 2 rfl ?_
  refine Ev.callR hd hM_7 rfl (y := 14) (as := [.ref 12, .ref 2]) (rest := []) rfl (Nat.le_of_ble_eq_true rfl) h2 ?_
  refine Ev.run (c' := (45, [.ref 12, .ref 2, .int x2, .int x3], [.int x3, .ref 2, .ref 12], hp E w2)) hM_7 3 rfl ?_
  refine Ev.callR hd hM_7 rfl (y := 15) (as := [.ref 12, .ref 2, .int x3]) (rest := []) rfl (Nat.le_of_ble_eq_true rfl) h3 ?_
  refine Ev.run (c' := (21, [.ref 12, .ref 2, .int v1, .int (x3 + (1 : Int32))], [], hp E w3)) hM_7 3 rfl ?_
  exact e
theorem p7_21_b {E : Nat × (Nat → Int32)} {w : Wd} {d : Nat} {x2 x3 : Int32} {w' : Wd} (hd : 1 ≤ d) (c1 : ¬ x2 = 0) (c2 : (810 : Int32) < x3) (qw : (sF 4 (gF w 2) w) = w') : Ev d 7 (21, [.ref 12, .ref 2, .int x2, .int x3], [], hp E w) (.inl none, hp E w') := by
  subst qw
  refine Ev.run (c' := (22, [.ref 12, .ref 2, .int x2, .int x3], [.int x2], hp E w)) hM_7 1 rfl ?_
  refine Ev.ifF hM_7 rfl (cI_eqF c1) ?_
  refine Ev.run (c' := (29, [.ref 12, .ref 2, .int x2, .int x3], [.int (810 : Int32), .int x3], hp E w)) hM_7 2 rfl ?_
  refine Ev.icT hM_7 rfl (cI_gtT c2) ?_
  refine Ev.run (c' := (57, [.ref 12, .ref 2, .int x2, .int x3], [.ref 2, .ref 12], hp E w)) hM_7 2 rfl ?_
  refine Ev.callR hd hM_7 rfl (y := 40) (as := [.ref 2]) (rest := [.ref 12]) rfl (Nat.le_of_ble_eq_true rfl) (Ev.run (c' := (4, [.ref 2], [.int (gF w 2)], hp E w)) hM_40 2 rfl (Ev.fin hM_40 rfl rfl)) ?_
  refine Ev.run (c' := (63, [.ref 12, .ref 2, .int x2, .int x3], [], hp E (sF 4 (gF w 2) w))) hM_7 1 rfl ?_
  exact Ev.fin hM_7 rfl rfl
theorem p7_21_c {E : Nat × (Nat → Int32)} {w : Wd} {d : Nat} {x2 x3 : Int32} {w' : Wd} (hd : 1 ≤ d) (c1 : x2 = 0) (qw : (sF 4 (gF w 2) w) = w') : Ev d 7 (21, [.ref 12, .ref 2, .int x2, .int x3], [], hp E w) (.inl none, hp E w') := by
  subst qw
  refine Ev.run (c' := (22, [.ref 12, .ref 2, .int x2, .int x3], [.int x2], hp E w)) hM_7 1 rfl ?_
  refine Ev.ifT hM_7 rfl (cI_eqT c1) ?_
  refine Ev.run (c' := (57, [.ref 12, .ref 2, .int x2, .int x3], [.ref 2, .ref 12], hp E w)) hM_7 2 rfl ?_
  refine Ev.callR hd hM_7 rfl (y := 40) (as := [.ref 2]) (rest := [.ref 12]) rfl (Nat.le_of_ble_eq_true rfl) (Ev.run (c' := (4, [.ref 2], [.int (gF w 2)], hp E w)) hM_40 2 rfl (Ev.fin hM_40 rfl rfl)) ?_
  refine Ev.run (c' := (63, [.ref 12, .ref 2, .int x2, .int x3], [], hp E (sF 4 (gF w 2) w))) hM_7 1 rfl ?_
  exact Ev.fin hM_7 rfl rfl
theorem hM_10 : mAt 10 = some km_X1_beginTable := rfl
theorem p10_e_a {E : Nat × (Nat → Int32)} {w : Wd} {d : Nat} {o : Ou} {w' : Wd} (hd : 1 ≤ d) (qw : (sA 5 (ra 90 (gA (sA 4 (ra 810 (gA w 4) (-1 : Int32)) w) 5) (0 : Int32)) (sA 4 (ra 810 (gA w 4) (-1 : Int32)) w)) = w') (e : Ev d 10 (18, [.ref 12, .ref 2, .int (0 : Int32), jk], [], hp E w') o) : Ev d 10 (ent0 10 [.ref 12, .ref 2] (hp E w)) o := by
  subst qw
  refine Ev.run (c' := (5, [.ref 12, .ref 2, jk, jk], [.int (-1 : Int32), .ref 13], hp E w)) hM_10 3 rfl ?_
  refine Ev.callR hd hM_10 rfl (y := 57) (as := [.ref 13, .int (-1 : Int32)]) (rest := []) rfl (Nat.le_of_ble_eq_true rfl) (row_putAll (a := 13) (b := 13) (n := 810) rfl rfl (by decide) (by decide) (h' := hp E (sA 4 (ra 810 (gA w 4) (-1 : Int32)) w)) rfl) ?_
  refine Ev.run (c' := (13, [.ref 12, .ref 2, jk, jk], [.int (0 : Int32), .ref 15], hp E (sA 4 (ra 810 (gA w 4) (-1 : Int32)) w))) hM_10 3 rfl ?_
  refine Ev.callR hd hM_10 rfl (y := 57) (as := [.ref 15, .int (0 : Int32)]) (rest := []) rfl (Nat.le_of_ble_eq_true rfl) (row_putAll (a := 15) (b := 15) (n := 90) rfl rfl (by decide) (by decide) (h' := hp E (sA 5 (ra 90 (gA (sA 4 (ra 810 (gA w 4) (-1 : Int32)) w) 5) (0 : Int32)) (sA 4 (ra 810 (gA w 4) (-1 : Int32)) w))) rfl) ?_
  refine Ev.run (c' := (18, [.ref 12, .ref 2, .int (0 : Int32), jk], [], hp E (sA 5 (ra 90 (gA (sA 4 (ra 810 (gA w 4) (-1 : Int32)) w) 5) (0 : Int32)) (sA 4 (ra 810 (gA w 4) (-1 : Int32)) w)))) hM_10 2 rfl ?_
  exact e
theorem p10_18_a {E : Nat × (Nat → Int32)} {w : Wd} {d : Nat} {x2 : Int32} {u3 : Value} {o : Ou}  (hd : 1 ≤ d) (c1 : x2 < (gF w 1)) (e : Ev d 10 (28, [.ref 12, .ref 2, .int x2, .int (0 : Int32)], [], hp E w) o) : Ev d 10 (18, [.ref 12, .ref 2, .int x2, u3], [], hp E w) o := by
  refine Ev.run (c' := (20, [.ref 12, .ref 2, .int x2, u3], [.ref 2, .int x2], hp E w)) hM_10 2 rfl ?_
  refine Ev.callR hd hM_10 rfl (y := 39) (as := [.ref 2]) (rest := [.int x2]) rfl (Nat.le_of_ble_eq_true rfl) (Ev.run (c' := (4, [.ref 2], [.int (gF w 1)], hp E w)) hM_39 2 rfl (Ev.fin hM_39 rfl rfl)) ?_
  refine Ev.run (c' := (23, [.ref 12, .ref 2, .int x2, u3], [.int (gF w 1), .int x2], hp E w)) hM_10 0 rfl ?_
  refine Ev.icF hM_10 rfl (cI_geF c1) ?_
  refine Ev.run (c' := (28, [.ref 12, .ref 2, .int x2, .int (0 : Int32)], [], hp E w)) hM_10 2 rfl ?_
  exact e
theorem p10_18_b {E : Nat × (Nat → Int32)} {w : Wd} {d : Nat} {x2 : Int32} {u3 : Value}  (hd : 1 ≤ d) (c1 : ¬ x2 < (gF w 1)) : Ev d 10 (18, [.ref 12, .ref 2, .int x2, u3], [], hp E w) (.inl none, hp E w) := by
  refine Ev.run (c' := (20, [.ref 12, .ref 2, .int x2, u3], [.ref 2, .int x2], hp E w)) hM_10 2 rfl ?_
  refine Ev.callR hd hM_10 rfl (y := 39) (as := [.ref 2]) (rest := [.int x2]) rfl (Nat.le_of_ble_eq_true rfl) (Ev.run (c' := (4, [.ref 2], [.int (gF w 1)], hp E w)) hM_39 2 rfl (Ev.fin hM_39 rfl rfl)) ?_
  refine Ev.run (c' := (23, [.ref 12, .ref 2, .int x2, u3], [.int (gF w 1), .int x2], hp E w)) hM_10 0 rfl ?_
  refine Ev.icT hM_10 rfl (cI_geT c1) ?_
  exact Ev.fin hM_10 rfl rfl
theorem p10_28_a {E : Nat × (Nat → Int32)} {w : Wd} {d : Nat} {x2 x3 : Int32} {o : Ou} {w1 : Wd} {v1 : Int32} {z1 : Int32} {w2 : Wd} {v2 : Int32} {y3 : Int32} (hd : 1 ≤ d) (c1 : x3 < (10 : Int32)) (h1 : Ev (d - 1) 46 (ent0 46 [.ref 2, .int x3] (hp E w)) (.inl (some (.int v1)), hp E w1)) (c2 : ¬ v1 = 0) (a1 : (((1 : Int32) <<< (x2 &&& 31)) ||| ((1 : Int32) <<< (x3 &&& 31))) = z1) (h2 : Ev (d - 1) 11 (ent0 11 [.ref 12, .ref 2, .int x2, .int x3, .int z1, .int (0 : Int32)] (hp E w1)) (.inl (some (.int v2)), hp E w2)) (q3 : (x3 + (1 : Int32)) = y3) (e : Ev d 10 (28, [.ref 12, .ref 2, .int x2, .int y3], [], hp E w2) o) : Ev d 10 (28, [.ref 12, .ref 2, .int x2, .int x3], [], hp E w) o := by
  subst q3
  refine Ev.run (c' := (31, [.ref 12, .ref 2, .int x2, .int x3], [.int (10 : Int32), .int x3], hp E w)) hM_10 2 rfl ?_
  refine Ev.icF hM_10 rfl (cI_geF c1) ?_
  refine Ev.run (c' := (36, [.ref 12, .ref 2, .int x2, .int x3], [.int x3, .ref 2], hp E w)) hM_10 2 rfl ?_
  refine Ev.callR hd hM_10 rfl (y := 46) (as := [.ref 2, .int x3]) (rest := []) rfl (Nat.le_of_ble_eq_true rfl) h1 ?_
  refine Ev.run (c' := (39, [.ref 12, .ref 2, .int x2, .int x3], [.int v1], hp E w1)) hM_10 0 rfl ?_
  refine Ev.ifF hM_10 rfl (cI_eqF c2) ?_
  refine Ev.run (c' := (54, [.ref 12, .ref 2, .int x2, .int x3], [.int (0 : Int32), .int (((1 : Int32) <<< (x2 &&& 31)) ||| ((1 : Int32) <<< (x3 &&& 31))), .int x3, .int x2, .ref 2, .ref 12], hp E w1)) hM_10 12 rfl ?_
  rw [← a1] at h2
  refine Ev.callR hd hM_10 rfl (y := 11) (as := [.ref 12, .ref 2, .int x2, .int x3, .int (((1 : Int32) <<< (x2 &&& 31)) ||| ((1 : Int32) <<< (x3 &&& 31))), .int (0 : Int32)]) (rest := []) rfl (Nat.le_of_ble_eq_true rfl) h2 ?_
  refine Ev.run (c' := (28, [.ref 12, .ref 2, .int x2, .int (x3 + (1 : Int32))], [], hp E w2)) hM_10 3 rfl ?_
  exact e
theorem p10_28_b {E : Nat × (Nat → Int32)} {w : Wd} {d : Nat} {x2 x3 : Int32} {o : Ou} {w1 : Wd} {v1 : Int32} {y3 : Int32} (hd : 1 ≤ d) (c1 : x3 < (10 : Int32)) (h1 : Ev (d - 1) 46 (ent0 46 [.ref 2, .int x3] (hp E w)) (.inl (some (.int v1)), hp E w1)) (c2 : v1 = 0) (q3 : (x3 + (1 : Int32)) = y3) (e : Ev d 10 (28, [.ref 12, .ref 2, .int x2, .int y3], [], hp E w1) o) : Ev d 10 (28, [.ref 12, .ref 2, .int x2, .int x3], [], hp E w) o := by
  subst q3
  refine Ev.run (c' := (31, [.ref 12, .ref 2, .int x2, .int x3], [.int (10 : Int32), .int x3], hp E w)) hM_10 2 rfl ?_
  refine Ev.icF hM_10 rfl (cI_geF c1) ?_
  refine Ev.run (c' := (36, [.ref 12, .ref 2, .int x2, .int x3], [.int x3, .ref 2], hp E w)) hM_10 2 rfl ?_
  refine Ev.callR hd hM_10 rfl (y := 46) (as := [.ref 2, .int x3]) (rest := []) rfl (Nat.le_of_ble_eq_true rfl) h1 ?_
  refine Ev.run (c' := (39, [.ref 12, .ref 2, .int x2, .int x3], [.int v1], hp E w1)) hM_10 0 rfl ?_
  refine Ev.ifT hM_10 rfl (cI_eqT c2) ?_
  refine Ev.run (c' := (28, [.ref 12, .ref 2, .int x2, .int (x3 + (1 : Int32))], [], hp E w1)) hM_10 2 rfl ?_
  exact e
theorem p10_28_c {E : Nat × (Nat → Int32)} {w : Wd} {d : Nat} {x2 x3 : Int32} {o : Ou} {y2 : Int32} (c1 : ¬ x3 < (10 : Int32)) (q2 : (x2 + (1 : Int32)) = y2) (e : Ev d 10 (18, [.ref 12, .ref 2, .int y2, .int x3], [], hp E w) o) : Ev d 10 (28, [.ref 12, .ref 2, .int x2, .int x3], [], hp E w) o := by
  subst q2
  refine Ev.run (c' := (31, [.ref 12, .ref 2, .int x2, .int x3], [.int (10 : Int32), .int x3], hp E w)) hM_10 2 rfl ?_
  refine Ev.icT hM_10 rfl (cI_geT c1) ?_
  refine Ev.run (c' := (18, [.ref 12, .ref 2, .int (x2 + (1 : Int32)), .int x3], [], hp E w)) hM_10 2 rfl ?_
  exact e
theorem hM_11 : mAt 11 = some km_X1_addCaught := rfl
theorem p11_e_a {E : Nat × (Nat → Int32)} {w : Wd} {d : Nat} {x2 x3 x4 x5 : Int32} {o : Ou} {j1 : Nat} {w1 : Wd} {v1 : Int32} {y6 : Int32} {y7 : Int32} (hd : 1 ≤ d) (g1 : ((x2 * (10 : Int32)) + x3) = I j1) (b1 : j1 < 2147483648) (h1 : Ev (d - 1) 42 (ent0 42 [.ref 2] (hp E w)) (.inl (some (.int v1)), hp E w1)) (q6 : (rv 90 (gA w 5) j1) = y6) (q7 : ((x4 &&& ((rv 90 (gA w 5) j1) ^^^ (-1 : Int32))) &&& v1) = y7) (e : Ev d 11 (31, [.ref 12, .ref 2, .int x2, .int x3, .int x4, .int x5, .int y6, .int y7, .int (0 : Int32)], [], hp E w1) o) : Ev d 11 (ent0 11 [.ref 12, .ref 2, .int x2, .int x3, .int x4, .int x5] (hp E w)) o := by
  subst q7
  subst q6
  refine Ev.run (c' := (6, [.ref 12, .ref 2, .int x2, .int x3, .int x4, .int x5, jk, jk, jk], [.int x3, .int x2, .ref 15], hp E w)) hM_11 4 rfl ?_
  refine Ev.callR hd hM_11 rfl (y := 8) (as := [.int x2, .int x3]) (rest := [.ref 15]) rfl (Nat.le_of_ble_eq_true rfl) (pair_spec) ?_
  refine Ev.run (c' := (9, [.ref 12, .ref 2, .int x2, .int x3, .int x4, .int x5, jk, jk, jk], [.int ((x2 * (10 : Int32)) + x3), .ref 15], hp E w)) hM_11 0 rfl ?_
  rw [g1]
  refine Ev.callR hd hM_11 rfl (y := 55) (as := [.ref 15, .int (I j1)]) (rest := []) rfl (Nat.le_of_ble_eq_true rfl) (row_at (a := 15) (b := 16) (n := 90) rfl rfl (by decide) b1) ?_
  refine Ev.run (c' := (22, [.ref 12, .ref 2, .int x2, .int x3, .int x4, .int x5, .int (rv 90 (gA w 5) j1), jk, jk], [.ref 2, .int (x4 &&& ((rv 90 (gA w 5) j1) ^^^ (-1 : Int32)))], hp E w)) hM_11 7 rfl ?_
  refine Ev.callR hd hM_11 rfl (y := 42) (as := [.ref 2]) (rest := [.int (x4 &&& ((rv 90 (gA w 5) j1) ^^^ (-1 : Int32)))]) rfl (Nat.le_of_ble_eq_true rfl) h1 ?_
  refine Ev.run (c' := (31, [.ref 12, .ref 2, .int x2, .int x3, .int x4, .int x5, .int (rv 90 (gA w 5) j1), .int ((x4 &&& ((rv 90 (gA w 5) j1) ^^^ (-1 : Int32))) &&& v1), .int (0 : Int32)], [], hp E w1)) hM_11 4 rfl ?_
  exact e
theorem p11_31_a {E : Nat × (Nat → Int32)} {w : Wd} {d : Nat} {x2 x3 x4 x5 x6 x7 x8 : Int32} {o : Ou} {j1 : Nat} {y8 : Int32} {w' : Wd} (hd2 : 2 ≤ d) (c1 : x8 < (gF w 1)) (c2 : ¬ (x7 &&& ((1 : Int32) <<< (x8 &&& 31))) = 0) (g1 : ((((x2 * (10 : Int32)) + x3) * (9 : Int32)) + x8) = I j1) (b1 : j1 < 2147483648) (q8 : (x8 + (1 : Int32)) = y8) (qw : (sA 4 (rp 810 (gA w 4) j1 x5) w) = w') (e : Ev d 11 (31, [.ref 12, .ref 2, .int x2, .int x3, .int x4, .int x5, .int x6, .int x7, .int y8], [], hp E w') o) : Ev d 11 (31, [.ref 12, .ref 2, .int x2, .int x3, .int x4, .int x5, .int x6, .int x7, .int x8], [], hp E w) o := by
  have hd : 1 ≤ d := Nat.le_trans (by decide) hd2
  subst qw
  subst q8
  refine Ev.run (c' := (34, [.ref 12, .ref 2, .int x2, .int x3, .int x4, .int x5, .int x6, .int x7, .int x8], [.ref 2, .int x8], hp E w)) hM_11 2 rfl ?_
  refine Ev.callR hd hM_11 rfl (y := 39) (as := [.ref 2]) (rest := [.int x8]) rfl (Nat.le_of_ble_eq_true rfl) (Ev.run (c' := (4, [.ref 2], [.int (gF w 1)], hp E w)) hM_39 2 rfl (Ev.fin hM_39 rfl rfl)) ?_
  refine Ev.run (c' := (37, [.ref 12, .ref 2, .int x2, .int x3, .int x4, .int x5, .int x6, .int x7, .int x8], [.int (gF w 1), .int x8], hp E w)) hM_11 0 rfl ?_
  refine Ev.icF hM_11 rfl (cI_geF c1) ?_
  refine Ev.run (c' := (47, [.ref 12, .ref 2, .int x2, .int x3, .int x4, .int x5, .int x6, .int x7, .int x8], [.int (x7 &&& ((1 : Int32) <<< (x8 &&& 31)))], hp E w)) hM_11 5 rfl ?_
  refine Ev.ifF hM_11 rfl (cI_eqF c2) ?_
  refine Ev.run (c' := (58, [.ref 12, .ref 2, .int x2, .int x3, .int x4, .int x5, .int x6, .int x7, .int x8], [.int x8, .int x3, .int x2, .ref 13], hp E w)) hM_11 5 rfl ?_
  refine Ev.callR hd hM_11 rfl (y := 9) (as := [.int x2, .int x3, .int x8]) (rest := [.ref 13]) rfl (Nat.le_of_ble_eq_true rfl) (cell_spec hd2) ?_
  refine Ev.run (c' := (63, [.ref 12, .ref 2, .int x2, .int x3, .int x4, .int x5, .int x6, .int x7, .int x8], [.int x5, .int ((((x2 * (10 : Int32)) + x3) * (9 : Int32)) + x8), .ref 13], hp E w)) hM_11 1 rfl ?_
  rw [g1]
  refine Ev.callR hd hM_11 rfl (y := 56) (as := [.ref 13, .int (I j1), .int x5]) (rest := []) rfl (Nat.le_of_ble_eq_true rfl) (row_put (a := 13) (b := 13) (n := 810) rfl rfl (by decide) b1 (h' := hp E (sA 4 (rp 810 (gA w 4) j1 x5) w)) rfl) ?_
  refine Ev.run (c' := (31, [.ref 12, .ref 2, .int x2, .int x3, .int x4, .int x5, .int x6, .int x7, .int (x8 + (1 : Int32))], [], hp E (sA 4 (rp 810 (gA w 4) j1 x5) w))) hM_11 2 rfl ?_
  exact e
theorem p11_31_b {E : Nat × (Nat → Int32)} {w : Wd} {d : Nat} {x2 x3 x4 x5 x6 x7 x8 : Int32} {o : Ou} {y8 : Int32} (hd : 1 ≤ d) (c1 : x8 < (gF w 1)) (c2 : (x7 &&& ((1 : Int32) <<< (x8 &&& 31))) = 0) (q8 : (x8 + (1 : Int32)) = y8) (e : Ev d 11 (31, [.ref 12, .ref 2, .int x2, .int x3, .int x4, .int x5, .int x6, .int x7, .int y8], [], hp E w) o) : Ev d 11 (31, [.ref 12, .ref 2, .int x2, .int x3, .int x4, .int x5, .int x6, .int x7, .int x8], [], hp E w) o := by
  subst q8
  refine Ev.run (c' := (34, [.ref 12, .ref 2, .int x2, .int x3, .int x4, .int x5, .int x6, .int x7, .int x8], [.ref 2, .int x8], hp E w)) hM_11 2 rfl ?_
  refine Ev.callR hd hM_11 rfl (y := 39) (as := [.ref 2]) (rest := [.int x8]) rfl (Nat.le_of_ble_eq_true rfl) (Ev.run (c' := (4, [.ref 2], [.int (gF w 1)], hp E w)) hM_39 2 rfl (Ev.fin hM_39 rfl rfl)) ?_
  refine Ev.run (c' := (37, [.ref 12, .ref 2, .int x2, .int x3, .int x4, .int x5, .int x6, .int x7, .int x8], [.int (gF w 1), .int x8], hp E w)) hM_11 0 rfl ?_
  refine Ev.icF hM_11 rfl (cI_geF c1) ?_
  refine Ev.run (c' := (47, [.ref 12, .ref 2, .int x2, .int x3, .int x4, .int x5, .int x6, .int x7, .int x8], [.int (x7 &&& ((1 : Int32) <<< (x8 &&& 31)))], hp E w)) hM_11 5 rfl ?_
  refine Ev.ifT hM_11 rfl (cI_eqT c2) ?_
  refine Ev.run (c' := (31, [.ref 12, .ref 2, .int x2, .int x3, .int x4, .int x5, .int x6, .int x7, .int (x8 + (1 : Int32))], [], hp E w)) hM_11 2 rfl ?_
  exact e
theorem p11_31_c {E : Nat × (Nat → Int32)} {w : Wd} {d : Nat} {x2 x3 x4 x5 x6 x7 x8 : Int32} {j1 : Nat} {w' : Wd} (hd : 1 ≤ d) (c1 : ¬ x8 < (gF w 1)) (g1 : ((x2 * (10 : Int32)) + x3) = I j1) (b1 : j1 < 2147483648) (c2 : ¬ x7 = 0) (qw : (sA 5 (rp 90 (gA w 5) j1 (x6 ||| x7)) w) = w') : Ev d 11 (31, [.ref 12, .ref 2, .int x2, .int x3, .int x4, .int x5, .int x6, .int x7, .int x8], [], hp E w) (.inl (some (.int (1 : Int32))), hp E w') := by
  subst qw
  refine Ev.run (c' := (34, [.ref 12, .ref 2, .int x2, .int x3, .int x4, .int x5, .int x6, .int x7, .int x8], [.ref 2, .int x8], hp E w)) hM_11 2 rfl ?_
  refine Ev.callR hd hM_11 rfl (y := 39) (as := [.ref 2]) (rest := [.int x8]) rfl (Nat.le_of_ble_eq_true rfl) (Ev.run (c' := (4, [.ref 2], [.int (gF w 1)], hp E w)) hM_39 2 rfl (Ev.fin hM_39 rfl rfl)) ?_
  refine Ev.run (c' := (37, [.ref 12, .ref 2, .int x2, .int x3, .int x4, .int x5, .int x6, .int x7, .int x8], [.int (gF w 1), .int x8], hp E w)) hM_11 0 rfl ?_
  refine Ev.icT hM_11 rfl (cI_geT c1) ?_
  refine Ev.run (c' := (78, [.ref 12, .ref 2, .int x2, .int x3, .int x4, .int x5, .int x6, .int x7, .int x8], [.int x3, .int x2, .ref 15], hp E w)) hM_11 4 rfl ?_
  refine Ev.callR hd hM_11 rfl (y := 8) (as := [.int x2, .int x3]) (rest := [.ref 15]) rfl (Nat.le_of_ble_eq_true rfl) (pair_spec) ?_
  refine Ev.run (c' := (86, [.ref 12, .ref 2, .int x2, .int x3, .int x4, .int x5, .int x6, .int x7, .int x8], [.int (x6 ||| x7), .int ((x2 * (10 : Int32)) + x3), .ref 15], hp E w)) hM_11 3 rfl ?_
  rw [g1]
  refine Ev.callR hd hM_11 rfl (y := 56) (as := [.ref 15, .int (I j1), .int (x6 ||| x7)]) (rest := []) rfl (Nat.le_of_ble_eq_true rfl) (row_put (a := 15) (b := 15) (n := 90) rfl rfl (by decide) b1 (h' := hp E (sA 5 (rp 90 (gA w 5) j1 (x6 ||| x7)) w)) rfl) ?_
  refine Ev.run (c' := (91, [.ref 12, .ref 2, .int x2, .int x3, .int x4, .int x5, .int x6, .int x7, .int x8], [.int x7], hp E (sA 5 (rp 90 (gA w 5) j1 (x6 ||| x7)) w))) hM_11 1 rfl ?_
  refine Ev.ifF hM_11 rfl (cI_eqF c2) ?_
  refine Ev.run (c' := (99, [.ref 12, .ref 2, .int x2, .int x3, .int x4, .int x5, .int x6, .int x7, .int x8], [.int (1 : Int32)], hp E (sA 5 (rp 90 (gA w 5) j1 (x6 ||| x7)) w))) hM_11 2 rfl ?_
  exact Ev.fin hM_11 rfl rfl
theorem p11_31_d {E : Nat × (Nat → Int32)} {w : Wd} {d : Nat} {x2 x3 x4 x5 x6 x7 x8 : Int32} {j1 : Nat} {w' : Wd} (hd : 1 ≤ d) (c1 : ¬ x8 < (gF w 1)) (g1 : ((x2 * (10 : Int32)) + x3) = I j1) (b1 : j1 < 2147483648) (c2 : x7 = 0) (qw : (sA 5 (rp 90 (gA w 5) j1 (x6 ||| x7)) w) = w') : Ev d 11 (31, [.ref 12, .ref 2, .int x2, .int x3, .int x4, .int x5, .int x6, .int x7, .int x8], [], hp E w) (.inl (some (.int (0 : Int32))), hp E w') := by
  subst qw
  refine Ev.run (c' := (34, [.ref 12, .ref 2, .int x2, .int x3, .int x4, .int x5, .int x6, .int x7, .int x8], [.ref 2, .int x8], hp E w)) hM_11 2 rfl ?_
  refine Ev.callR hd hM_11 rfl (y := 39) (as := [.ref 2]) (rest := [.int x8]) rfl (Nat.le_of_ble_eq_true rfl) (Ev.run (c' := (4, [.ref 2], [.int (gF w 1)], hp E w)) hM_39 2 rfl (Ev.fin hM_39 rfl rfl)) ?_
  refine Ev.run (c' := (37, [.ref 12, .ref 2, .int x2, .int x3, .int x4, .int x5, .int x6, .int x7, .int x8], [.int (gF w 1), .int x8], hp E w)) hM_11 0 rfl ?_
  refine Ev.icT hM_11 rfl (cI_geT c1) ?_
  refine Ev.run (c' := (78, [.ref 12, .ref 2, .int x2, .int x3, .int x4, .int x5, .int x6, .int x7, .int x8], [.int x3, .int x2, .ref 15], hp E w)) hM_11 4 rfl ?_
  refine Ev.callR hd hM_11 rfl (y := 8) (as := [.int x2, .int x3]) (rest := [.ref 15]) rfl (Nat.le_of_ble_eq_true rfl) (pair_spec) ?_
  refine Ev.run (c' := (86, [.ref 12, .ref 2, .int x2, .int x3, .int x4, .int x5, .int x6, .int x7, .int x8], [.int (x6 ||| x7), .int ((x2 * (10 : Int32)) + x3), .ref 15], hp E w)) hM_11 3 rfl ?_
  rw [g1]
  refine Ev.callR hd hM_11 rfl (y := 56) (as := [.ref 15, .int (I j1), .int (x6 ||| x7)]) (rest := []) rfl (Nat.le_of_ble_eq_true rfl) (row_put (a := 15) (b := 15) (n := 90) rfl rfl (by decide) b1 (h' := hp E (sA 5 (rp 90 (gA w 5) j1 (x6 ||| x7)) w)) rfl) ?_
  refine Ev.run (c' := (91, [.ref 12, .ref 2, .int x2, .int x3, .int x4, .int x5, .int x6, .int x7, .int x8], [.int x7], hp E (sA 5 (rp 90 (gA w 5) j1 (x6 ||| x7)) w))) hM_11 1 rfl ?_
  refine Ev.ifT hM_11 rfl (cI_eqT c2) ?_
  refine Ev.run (c' := (99, [.ref 12, .ref 2, .int x2, .int x3, .int x4, .int x5, .int x6, .int x7, .int x8], [.int (0 : Int32)], hp E (sA 5 (rp 90 (gA w 5) j1 (x6 ||| x7)) w))) hM_11 1 rfl ?_
  exact Ev.fin hM_11 rfl rfl
theorem hM_12 : mAt 12 = some km_X1_letRobberMove := rfl
theorem p12_e_a {E : Nat × (Nat → Int32)} {w : Wd} {d : Nat} {o : Ou}  (e : Ev d 12 (2, [.ref 12, .ref 2, .int (0 : Int32), jk, jk], [], hp E w) o) : Ev d 12 (ent0 12 [.ref 12, .ref 2] (hp E w)) o := by
  refine Ev.run (c' := (2, [.ref 12, .ref 2, .int (0 : Int32), jk, jk], [], hp E w)) hM_12 2 rfl ?_
  exact e
theorem p12_2_a {E : Nat × (Nat → Int32)} {w : Wd} {d : Nat} {x2 : Int32} {u3 u4 : Value} {o : Ou}  (hd : 1 ≤ d) (c1 : x2 < (gF w 1)) (e : Ev d 12 (12, [.ref 12, .ref 2, .int x2, .int (0 : Int32), u4], [], hp E w) o) : Ev d 12 (2, [.ref 12, .ref 2, .int x2, u3, u4], [], hp E w) o := by
  refine Ev.run (c' := (4, [.ref 12, .ref 2, .int x2, u3, u4], [.ref 2, .int x2], hp E w)) hM_12 2 rfl ?_
  refine Ev.callR hd hM_12 rfl (y := 39) (as := [.ref 2]) (rest := [.int x2]) rfl (Nat.le_of_ble_eq_true rfl) (Ev.run (c' := (4, [.ref 2], [.int (gF w 1)], hp E w)) hM_39 2 rfl (Ev.fin hM_39 rfl rfl)) ?_
  refine Ev.run (c' := (7, [.ref 12, .ref 2, .int x2, u3, u4], [.int (gF w 1), .int x2], hp E w)) hM_12 0 rfl ?_
  refine Ev.icF hM_12 rfl (cI_geF c1) ?_
  refine Ev.run (c' := (12, [.ref 12, .ref 2, .int x2, .int (0 : Int32), u4], [], hp E w)) hM_12 2 rfl ?_
  exact e
theorem p12_2_b {E : Nat × (Nat → Int32)} {w : Wd} {d : Nat} {x2 : Int32} {u3 u4 : Value}  (hd : 1 ≤ d) (c1 : ¬ x2 < (gF w 1)) : Ev d 12 (2, [.ref 12, .ref 2, .int x2, u3, u4], [], hp E w) (.inl none, hp E w) := by
  refine Ev.run (c' := (4, [.ref 12, .ref 2, .int x2, u3, u4], [.ref 2, .int x2], hp E w)) hM_12 2 rfl ?_
  refine Ev.callR hd hM_12 rfl (y := 39) (as := [.ref 2]) (rest := [.int x2]) rfl (Nat.le_of_ble_eq_true rfl) (Ev.run (c' := (4, [.ref 2], [.int (gF w 1)], hp E w)) hM_39 2 rfl (Ev.fin hM_39 rfl rfl)) ?_
  refine Ev.run (c' := (7, [.ref 12, .ref 2, .int x2, u3, u4], [.int (gF w 1), .int x2], hp E w)) hM_12 0 rfl ?_
  refine Ev.icT hM_12 rfl (cI_geT c1) ?_
  exact Ev.fin hM_12 rfl rfl
theorem p12_12_a {E : Nat × (Nat → Int32)} {w : Wd} {d : Nat} {x2 x3 : Int32} {u4 : Value} {o : Ou} {w1 : Wd} {v1 : Int32} {j1 : Nat} {z1 : Int32} {w2 : Wd} {v2 : Int32} {j2 : Nat} {y3 : Int32} {w' : Wd} (hd : 1 ≤ d) (c1 : x3 < (10 : Int32)) (h1 : Ev (d - 1) 46 (ent0 46 [.ref 2, .int x3] (hp E w)) (.inl (some (.int v1)), hp E w1)) (c2 : ¬ v1 = 0) (g1 : ((x2 * (10 : Int32)) + x3) = I j1) (b1 : j1 < 2147483648) (a1 : (rv 90 (gA w1 5) j1) = z1) (h2 : Ev (d - 1) 13 (ent0 13 [.ref 2, .int z1] (hp E w1)) (.inl (some (.int v2)), hp E w2)) (g2 : ((x2 * (10 : Int32)) + x3) = I j2) (b2 : j2 < 2147483648) (q3 : (x3 + (1 : Int32)) = y3) (qw : (sA 6 (rp 90 (gA w2 6) j2 ((((1 : Int32) <<< (x2 &&& 31)) ||| ((1 : Int32) <<< (x3 &&& 31))) ||| v2)) w2) = w') (e : Ev d 12 (12, [.ref 12, .ref 2, .int x2, .int y3, .int ((((1 : Int32) <<< (x2 &&& 31)) ||| ((1 : Int32) <<< (x3 &&& 31))) ||| v2)], [], hp E w') o) : Ev d 12 (12, [.ref 12, .ref 2, .int x2, .int x3, u4], [], hp E w) o := by
  subst qw
  subst q3
  refine Ev.run (c' := (15, [.ref 12, .ref 2, .int x2, .int x3, u4], [.int (10 : Int32), .int x3], hp E w)) hM_12 2 rfl ?_
  refine Ev.icF hM_12 rfl (cI_geF c1) ?_
  refine Ev.run (c' := (20, [.ref 12, .ref 2, .int x2, .int x3, u4], [.int x3, .ref 2], hp E w)) hM_12 2 rfl ?_
  refine Ev.callR hd hM_12 rfl (y := 46) (as := [.ref 2, .int x3]) (rest := []) rfl (Nat.le_of_ble_eq_true rfl) h1 ?_
  refine Ev.run (c' := (23, [.ref 12, .ref 2, .int x2, .int x3, u4], [.int v1], hp E w1)) hM_12 0 rfl ?_
  refine Ev.ifF hM_12 rfl (cI_eqF c2) ?_
  refine Ev.run (c' := (40, [.ref 12, .ref 2, .int x2, .int x3, u4], [.int x3, .int x2, .ref 15, .ref 2, .int (((1 : Int32) <<< (x2 &&& 31)) ||| ((1 : Int32) <<< (x3 &&& 31)))], hp E w1)) hM_12 12 rfl ?_
  refine Ev.callR hd hM_12 rfl (y := 8) (as := [.int x2, .int x3]) (rest := [.ref 15, .ref 2, .int (((1 : Int32) <<< (x2 &&& 31)) ||| ((1 : Int32) <<< (x3 &&& 31)))]) rfl (Nat.le_of_ble_eq_true rfl) (pair_spec) ?_
  refine Ev.run (c' := (43, [.ref 12, .ref 2, .int x2, .int x3, u4], [.int ((x2 * (10 : Int32)) + x3), .ref 15, .ref 2, .int (((1 : Int32) <<< (x2 &&& 31)) ||| ((1 : Int32) <<< (x3 &&& 31)))], hp E w1)) hM_12 0 rfl ?_
  rw [g1]
  refine Ev.callR hd hM_12 rfl (y := 55) (as := [.ref 15, .int (I j1)]) (rest := [.ref 2, .int (((1 : Int32) <<< (x2 &&& 31)) ||| ((1 : Int32) <<< (x3 &&& 31)))]) rfl (Nat.le_of_ble_eq_true rfl) (row_at (a := 15) (b := 16) (n := 90) rfl rfl (by decide) b1) ?_
  refine Ev.run (c' := (46, [.ref 12, .ref 2, .int x2, .int x3, u4], [.int (rv 90 (gA w1 5) j1), .ref 2, .int (((1 : Int32) <<< (x2 &&& 31)) ||| ((1 : Int32) <<< (x3 &&& 31)))], hp E w1)) hM_12 0 rfl ?_
  rw [← a1] at h2
  refine Ev.callR hd hM_12 rfl (y := 13) (as := [.ref 2, .int (rv 90 (gA w1 5) j1)]) (rest := [.int (((1 : Int32) <<< (x2 &&& 31)) ||| ((1 : Int32) <<< (x3 &&& 31)))]) rfl (Nat.le_of_ble_eq_true rfl) h2 ?_
  refine Ev.run (c' := (58, [.ref 12, .ref 2, .int x2, .int x3, .int ((((1 : Int32) <<< (x2 &&& 31)) ||| ((1 : Int32) <<< (x3 &&& 31))) ||| v2)], [.int x3, .int x2, .ref 17], hp E w2)) hM_12 6 rfl ?_
  refine Ev.callR hd hM_12 rfl (y := 8) (as := [.int x2, .int x3]) (rest := [.ref 17]) rfl (Nat.le_of_ble_eq_true rfl) (pair_spec) ?_
  refine Ev.run (c' := (63, [.ref 12, .ref 2, .int x2, .int x3, .int ((((1 : Int32) <<< (x2 &&& 31)) ||| ((1 : Int32) <<< (x3 &&& 31))) ||| v2)], [.int ((((1 : Int32) <<< (x2 &&& 31)) ||| ((1 : Int32) <<< (x3 &&& 31))) ||| v2), .int ((x2 * (10 : Int32)) + x3), .ref 17], hp E w2)) hM_12 1 rfl ?_
  rw [g2]
  refine Ev.callR hd hM_12 rfl (y := 56) (as := [.ref 17, .int (I j2), .int ((((1 : Int32) <<< (x2 &&& 31)) ||| ((1 : Int32) <<< (x3 &&& 31))) ||| v2)]) (rest := []) rfl (Nat.le_of_ble_eq_true rfl) (row_put (a := 17) (b := 17) (n := 90) rfl rfl (by decide) b2 (h' := hp E (sA 6 (rp 90 (gA w2 6) j2 ((((1 : Int32) <<< (x2 &&& 31)) ||| ((1 : Int32) <<< (x3 &&& 31))) ||| v2)) w2)) rfl) ?_
  refine Ev.run (c' := (12, [.ref 12, .ref 2, .int x2, .int (x3 + (1 : Int32)), .int ((((1 : Int32) <<< (x2 &&& 31)) ||| ((1 : Int32) <<< (x3 &&& 31))) ||| v2)], [], hp E (sA 6 (rp 90 (gA w2 6) j2 ((((1 : Int32) <<< (x2 &&& 31)) ||| ((1 : Int32) <<< (x3 &&& 31))) ||| v2)) w2))) hM_12 2 rfl ?_
  exact e
theorem p12_12_b {E : Nat × (Nat → Int32)} {w : Wd} {d : Nat} {x2 x3 : Int32} {u4 : Value} {o : Ou} {w1 : Wd} {v1 : Int32} {y3 : Int32} (hd : 1 ≤ d) (c1 : x3 < (10 : Int32)) (h1 : Ev (d - 1) 46 (ent0 46 [.ref 2, .int x3] (hp E w)) (.inl (some (.int v1)), hp E w1)) (c2 : v1 = 0) (q3 : (x3 + (1 : Int32)) = y3) (e : Ev d 12 (12, [.ref 12, .ref 2, .int x2, .int y3, u4], [], hp E w1) o) : Ev d 12 (12, [.ref 12, .ref 2, .int x2, .int x3, u4], [], hp E w) o := by
  subst q3
  refine Ev.run (c' := (15, [.ref 12, .ref 2, .int x2, .int x3, u4], [.int (10 : Int32), .int x3], hp E w)) hM_12 2 rfl ?_
  refine Ev.icF hM_12 rfl (cI_geF c1) ?_
  refine Ev.run (c' := (20, [.ref 12, .ref 2, .int x2, .int x3, u4], [.int x3, .ref 2], hp E w)) hM_12 2 rfl ?_
  refine Ev.callR hd hM_12 rfl (y := 46) (as := [.ref 2, .int x3]) (rest := []) rfl (Nat.le_of_ble_eq_true rfl) h1 ?_
  refine Ev.run (c' := (23, [.ref 12, .ref 2, .int x2, .int x3, u4], [.int v1], hp E w1)) hM_12 0 rfl ?_
  refine Ev.ifT hM_12 rfl (cI_eqT c2) ?_
  refine Ev.run (c' := (12, [.ref 12, .ref 2, .int x2, .int (x3 + (1 : Int32)), u4], [], hp E w1)) hM_12 2 rfl ?_
  exact e
theorem p12_12_c {E : Nat × (Nat → Int32)} {w : Wd} {d : Nat} {x2 x3 : Int32} {u4 : Value} {o : Ou} {y2 : Int32} (c1 : ¬ x3 < (10 : Int32)) (q2 : (x2 + (1 : Int32)) = y2) (e : Ev d 12 (2, [.ref 12, .ref 2, .int y2, .int x3, u4], [], hp E w) o) : Ev d 12 (12, [.ref 12, .ref 2, .int x2, .int x3, u4], [], hp E w) o := by
  subst q2
  refine Ev.run (c' := (15, [.ref 12, .ref 2, .int x2, .int x3, u4], [.int (10 : Int32), .int x3], hp E w)) hM_12 2 rfl ?_
  refine Ev.icT hM_12 rfl (cI_geT c1) ?_
  refine Ev.run (c' := (2, [.ref 12, .ref 2, .int (x2 + (1 : Int32)), .int x3, u4], [], hp E w)) hM_12 2 rfl ?_
  exact e
theorem hM_13 : mAt 13 = some km_X1_withoutEscape := rfl
theorem p13_e_a {E : Nat × (Nat → Int32)} {w : Wd} {d : Nat} {x1 : Int32} {o : Ou}  (e : Ev d 13 (4, [.ref 2, .int x1, .int (0 : Int32), .int (0 : Int32)], [], hp E w) o) : Ev d 13 (ent0 13 [.ref 2, .int x1] (hp E w)) o := by
  refine Ev.run (c' := (4, [.ref 2, .int x1, .int (0 : Int32), .int (0 : Int32)], [], hp E w)) hM_13 4 rfl ?_
  exact e
theorem p13_4_a {E : Nat × (Nat → Int32)} {w : Wd} {d : Nat} {x1 x2 x3 : Int32} {o : Ou} {w1 : Wd} {v1 : Int32} {y2 : Int32} {y3 : Int32} (hd : 1 ≤ d) (c1 : x3 < (gF w 1)) (h1 : Ev (d - 1) 47 (ent0 47 [.ref 2, .int x3] (hp E w)) (.inl (some (.int v1)), hp E w1)) (c2 : (v1 &&& (x1 ^^^ (-1 : Int32))) = 0) (q2 : (x2 ||| ((1 : Int32) <<< (x3 &&& 31))) = y2) (q3 : (x3 + (1 : Int32)) = y3) (e : Ev d 13 (4, [.ref 2, .int x1, .int y2, .int y3], [], hp E w1) o) : Ev d 13 (4, [.ref 2, .int x1, .int x2, .int x3], [], hp E w) o := by
  subst q3
  subst q2
  refine Ev.run (c' := (6, [.ref 2, .int x1, .int x2, .int x3], [.ref 2, .int x3], hp E w)) hM_13 2 rfl ?_
  refine Ev.callR hd hM_13 rfl (y := 39) (as := [.ref 2]) (rest := [.int x3]) rfl (Nat.le_of_ble_eq_true rfl) (Ev.run (c' := (4, [.ref 2], [.int (gF w 1)], hp E w)) hM_39 2 rfl (Ev.fin hM_39 rfl rfl)) ?_
  refine Ev.run (c' := (9, [.ref 2, .int x1, .int x2, .int x3], [.int (gF w 1), .int x3], hp E w)) hM_13 0 rfl ?_
  refine Ev.icF hM_13 rfl (cI_geF c1) ?_
  refine Ev.run (c' := (14, [.ref 2, .int x1, .int x2, .int x3], [.int x3, .ref 2], hp E w)) hM_13 2 rfl ?_
  refine Ev.callR hd hM_13 rfl (y := 47) (as := [.ref 2, .int x3]) (rest := []) rfl (Nat.le_of_ble_eq_true rfl) h1 ?_
  refine Ev.run (c' := (21, [.ref 2, .int x1, .int x2, .int x3], [.int (v1 &&& (x1 ^^^ (-1 : Int32)))], hp E w1)) hM_13 4 rfl ?_
  refine Ev.ifF hM_13 rfl (cI_neF c2) ?_
  refine Ev.run (c' := (4, [.ref 2, .int x1, .int (x2 ||| ((1 : Int32) <<< (x3 &&& 31))), .int (x3 + (1 : Int32))], [], hp E w1)) hM_13 8 rfl ?_
  exact e
theorem p13_4_b {E : Nat × (Nat → Int32)} {w : Wd} {d : Nat} {x1 x2 x3 : Int32} {o : Ou} {w1 : Wd} {v1 : Int32} {y3 : Int32} (hd : 1 ≤ d) (c1 : x3 < (gF w 1)) (h1 : Ev (d - 1) 47 (ent0 47 [.ref 2, .int x3] (hp E w)) (.inl (some (.int v1)), hp E w1)) (c2 : ¬ (v1 &&& (x1 ^^^ (-1 : Int32))) = 0) (q3 : (x3 + (1 : Int32)) = y3) (e : Ev d 13 (4, [.ref 2, .int x1, .int x2, .int y3], [], hp E w1) o) : Ev d 13 (4, [.ref 2, .int x1, .int x2, .int x3], [], hp E w) o := by
  subst q3
  refine Ev.run (c' := (6, [.ref 2, .int x1, .int x2, .int x3], [.ref 2, .int x3], hp E w)) hM_13 2 rfl ?_
  refine Ev.callR hd hM_13 rfl (y := 39) (as := [.ref 2]) (rest := [.int x3]) rfl (Nat.le_of_ble_eq_true rfl) (Ev.run (c' := (4, [.ref 2], [.int (gF w 1)], hp E w)) hM_39 2 rfl (Ev.fin hM_39 rfl rfl)) ?_
  refine Ev.run (c' := (9, [.ref 2, .int x1, .int x2, .int x3], [.int (gF w 1), .int x3], hp E w)) hM_13 0 rfl ?_
  refine Ev.icF hM_13 rfl (cI_geF c1) ?_
  refine Ev.run (c' := (14, [.ref 2, .int x1, .int x2, .int x3], [.int x3, .ref 2], hp E w)) hM_13 2 rfl ?_
  refine Ev.callR hd hM_13 rfl (y := 47) (as := [.ref 2, .int x3]) (rest := []) rfl (Nat.le_of_ble_eq_true rfl) h1 ?_
  refine Ev.run (c' := (21, [.ref 2, .int x1, .int x2, .int x3], [.int (v1 &&& (x1 ^^^ (-1 : Int32)))], hp E w1)) hM_13 4 rfl ?_
  refine Ev.ifT hM_13 rfl (cI_neT c2) ?_
  refine Ev.run (c' := (4, [.ref 2, .int x1, .int x2, .int (x3 + (1 : Int32))], [], hp E w1)) hM_13 2 rfl ?_
  exact e
theorem p13_4_c {E : Nat × (Nat → Int32)} {w : Wd} {d : Nat} {x1 x2 x3 : Int32}  (hd : 1 ≤ d) (c1 : ¬ x3 < (gF w 1)) : Ev d 13 (4, [.ref 2, .int x1, .int x2, .int x3], [], hp E w) (.inl (some (.int x2)), hp E w) := by
  refine Ev.run (c' := (6, [.ref 2, .int x1, .int x2, .int x3], [.ref 2, .int x3], hp E w)) hM_13 2 rfl ?_
  refine Ev.callR hd hM_13 rfl (y := 39) (as := [.ref 2]) (rest := [.int x3]) rfl (Nat.le_of_ble_eq_true rfl) (Ev.run (c' := (4, [.ref 2], [.int (gF w 1)], hp E w)) hM_39 2 rfl (Ev.fin hM_39 rfl rfl)) ?_
  refine Ev.run (c' := (9, [.ref 2, .int x1, .int x2, .int x3], [.int (gF w 1), .int x3], hp E w)) hM_13 0 rfl ?_
  refine Ev.icT hM_13 rfl (cI_geT c1) ?_
  refine Ev.run (c' := (37, [.ref 2, .int x1, .int x2, .int x3], [.int x2], hp E w)) hM_13 1 rfl ?_
  exact Ev.fin hM_13 rfl rfl
theorem hM_14 : mAt 14 = some km_X1_letFirstCopMove := rfl
theorem p14_e_a {E : Nat × (Nat → Int32)} {w : Wd} {d : Nat} {o : Ou}  (e : Ev d 14 (2, [.ref 12, .ref 2, .int (0 : Int32), jk, jk, jk], [], hp E w) o) : Ev d 14 (ent0 14 [.ref 12, .ref 2] (hp E w)) o := by
  refine Ev.run (c' := (2, [.ref 12, .ref 2, .int (0 : Int32), jk, jk, jk], [], hp E w)) hM_14 2 rfl ?_
  exact e
theorem p14_2_a {E : Nat × (Nat → Int32)} {w : Wd} {d : Nat} {x2 : Int32} {u3 u4 u5 : Value} {o : Ou}  (hd : 1 ≤ d) (c1 : x2 < (gF w 1)) (e : Ev d 14 (12, [.ref 12, .ref 2, .int x2, .int (0 : Int32), u4, u5], [], hp E w) o) : Ev d 14 (2, [.ref 12, .ref 2, .int x2, u3, u4, u5], [], hp E w) o := by
  refine Ev.run (c' := (4, [.ref 12, .ref 2, .int x2, u3, u4, u5], [.ref 2, .int x2], hp E w)) hM_14 2 rfl ?_
  refine Ev.callR hd hM_14 rfl (y := 39) (as := [.ref 2]) (rest := [.int x2]) rfl (Nat.le_of_ble_eq_true rfl) (Ev.run (c' := (4, [.ref 2], [.int (gF w 1)], hp E w)) hM_39 2 rfl (Ev.fin hM_39 rfl rfl)) ?_
  refine Ev.run (c' := (7, [.ref 12, .ref 2, .int x2, u3, u4, u5], [.int (gF w 1), .int x2], hp E w)) hM_14 0 rfl ?_
  refine Ev.icF hM_14 rfl (cI_geF c1) ?_
  refine Ev.run (c' := (12, [.ref 12, .ref 2, .int x2, .int (0 : Int32), u4, u5], [], hp E w)) hM_14 2 rfl ?_
  exact e
theorem p14_2_b {E : Nat × (Nat → Int32)} {w : Wd} {d : Nat} {x2 : Int32} {u3 u4 u5 : Value}  (hd : 1 ≤ d) (c1 : ¬ x2 < (gF w 1)) : Ev d 14 (2, [.ref 12, .ref 2, .int x2, u3, u4, u5], [], hp E w) (.inl none, hp E w) := by
  refine Ev.run (c' := (4, [.ref 12, .ref 2, .int x2, u3, u4, u5], [.ref 2, .int x2], hp E w)) hM_14 2 rfl ?_
  refine Ev.callR hd hM_14 rfl (y := 39) (as := [.ref 2]) (rest := [.int x2]) rfl (Nat.le_of_ble_eq_true rfl) (Ev.run (c' := (4, [.ref 2], [.int (gF w 1)], hp E w)) hM_39 2 rfl (Ev.fin hM_39 rfl rfl)) ?_
  refine Ev.run (c' := (7, [.ref 12, .ref 2, .int x2, u3, u4, u5], [.int (gF w 1), .int x2], hp E w)) hM_14 0 rfl ?_
  refine Ev.icT hM_14 rfl (cI_geT c1) ?_
  exact Ev.fin hM_14 rfl rfl
theorem p14_12_a {E : Nat × (Nat → Int32)} {w : Wd} {d : Nat} {x2 x3 : Int32} {u4 u5 : Value} {o : Ou} {w1 : Wd} {v1 : Int32} (hd : 1 ≤ d) (c1 : x3 < (10 : Int32)) (h1 : Ev (d - 1) 46 (ent0 46 [.ref 2, .int x3] (hp E w)) (.inl (some (.int v1)), hp E w1)) (c2 : ¬ v1 = 0) (e : Ev d 14 (32, [.ref 12, .ref 2, .int x2, .int x3, .int (0 : Int32), .int (0 : Int32)], [], hp E w1) o) : Ev d 14 (12, [.ref 12, .ref 2, .int x2, .int x3, u4, u5], [], hp E w) o := by
  refine Ev.run (c' := (15, [.ref 12, .ref 2, .int x2, .int x3, u4, u5], [.int (10 : Int32), .int x3], hp E w)) hM_14 2 rfl ?_
  refine Ev.icF hM_14 rfl (cI_geF c1) ?_
  refine Ev.run (c' := (20, [.ref 12, .ref 2, .int x2, .int x3, u4, u5], [.int x3, .ref 2], hp E w)) hM_14 2 rfl ?_
  refine Ev.callR hd hM_14 rfl (y := 46) (as := [.ref 2, .int x3]) (rest := []) rfl (Nat.le_of_ble_eq_true rfl) h1 ?_
  refine Ev.run (c' := (23, [.ref 12, .ref 2, .int x2, .int x3, u4, u5], [.int v1], hp E w1)) hM_14 0 rfl ?_
  refine Ev.ifF hM_14 rfl (cI_eqF c2) ?_
  refine Ev.run (c' := (32, [.ref 12, .ref 2, .int x2, .int x3, .int (0 : Int32), .int (0 : Int32)], [], hp E w1)) hM_14 4 rfl ?_
  exact e
theorem p14_12_b {E : Nat × (Nat → Int32)} {w : Wd} {d : Nat} {x2 x3 : Int32} {u4 u5 : Value} {o : Ou} {w1 : Wd} {v1 : Int32} {y3 : Int32} (hd : 1 ≤ d) (c1 : x3 < (10 : Int32)) (h1 : Ev (d - 1) 46 (ent0 46 [.ref 2, .int x3] (hp E w)) (.inl (some (.int v1)), hp E w1)) (c2 : v1 = 0) (q3 : (x3 + (1 : Int32)) = y3) (e : Ev d 14 (12, [.ref 12, .ref 2, .int x2, .int y3, u4, u5], [], hp E w1) o) : Ev d 14 (12, [.ref 12, .ref 2, .int x2, .int x3, u4, u5], [], hp E w) o := by
  subst q3
  refine Ev.run (c' := (15, [.ref 12, .ref 2, .int x2, .int x3, u4, u5], [.int (10 : Int32), .int x3], hp E w)) hM_14 2 rfl ?_
  refine Ev.icF hM_14 rfl (cI_geF c1) ?_
  refine Ev.run (c' := (20, [.ref 12, .ref 2, .int x2, .int x3, u4, u5], [.int x3, .ref 2], hp E w)) hM_14 2 rfl ?_
  refine Ev.callR hd hM_14 rfl (y := 46) (as := [.ref 2, .int x3]) (rest := []) rfl (Nat.le_of_ble_eq_true rfl) h1 ?_
  refine Ev.run (c' := (23, [.ref 12, .ref 2, .int x2, .int x3, u4, u5], [.int v1], hp E w1)) hM_14 0 rfl ?_
  refine Ev.ifT hM_14 rfl (cI_eqT c2) ?_
  refine Ev.run (c' := (12, [.ref 12, .ref 2, .int x2, .int (x3 + (1 : Int32)), u4, u5], [], hp E w1)) hM_14 2 rfl ?_
  exact e
theorem p14_12_c {E : Nat × (Nat → Int32)} {w : Wd} {d : Nat} {x2 x3 : Int32} {u4 u5 : Value} {o : Ou} {y2 : Int32} (c1 : ¬ x3 < (10 : Int32)) (q2 : (x2 + (1 : Int32)) = y2) (e : Ev d 14 (2, [.ref 12, .ref 2, .int y2, .int x3, u4, u5], [], hp E w) o) : Ev d 14 (12, [.ref 12, .ref 2, .int x2, .int x3, u4, u5], [], hp E w) o := by
  subst q2
  refine Ev.run (c' := (15, [.ref 12, .ref 2, .int x2, .int x3, u4, u5], [.int (10 : Int32), .int x3], hp E w)) hM_14 2 rfl ?_
  refine Ev.icT hM_14 rfl (cI_geT c1) ?_
  refine Ev.run (c' := (2, [.ref 12, .ref 2, .int (x2 + (1 : Int32)), .int x3, u4, u5], [], hp E w)) hM_14 2 rfl ?_
  exact e
theorem p14_32_a {E : Nat × (Nat → Int32)} {w : Wd} {d : Nat} {x2 x3 x4 x5 : Int32} {o : Ou} {w1 : Wd} {v1 : Int32} {j1 : Nat} {y4 : Int32} {y5 : Int32} (hd : 1 ≤ d) (c1 : x5 < (gF w 1)) (h1 : Ev (d - 1) 48 (ent0 48 [.ref 2, .int x2, .int x5] (hp E w)) (.inl (some (.int v1)), hp E w1)) (c2 : ¬ v1 = 0) (g1 : ((x5 * (10 : Int32)) + x3) = I j1) (b1 : j1 < 2147483648) (q4 : (x4 ||| (rv 90 (gA w1 6) j1)) = y4) (q5 : (x5 + (1 : Int32)) = y5) (e : Ev d 14 (32, [.ref 12, .ref 2, .int x2, .int x3, .int y4, .int y5], [], hp E w1) o) : Ev d 14 (32, [.ref 12, .ref 2, .int x2, .int x3, .int x4, .int x5], [], hp E w) o := by
  subst q5
  subst q4
  refine Ev.run (c' := (35, [.ref 12, .ref 2, .int x2, .int x3, .int x4, .int x5], [.ref 2, .int x5], hp E w)) hM_14 2 rfl ?_
  refine Ev.callR hd hM_14 rfl (y := 39) (as := [.ref 2]) (rest := [.int x5]) rfl (Nat.le_of_ble_eq_true rfl) (Ev.run (c' := (4, [.ref 2], [.int (gF w 1)], hp E w)) hM_39 2 rfl (Ev.fin hM_39 rfl rfl)) ?_
  refine Ev.run (c' := (38, [.ref 12, .ref 2, .int x2, .int x3, .int x4, .int x5], [.int (gF w 1), .int x5], hp E w)) hM_14 0 rfl ?_
  refine Ev.icF hM_14 rfl (cI_geF c1) ?_
  refine Ev.run (c' := (45, [.ref 12, .ref 2, .int x2, .int x3, .int x4, .int x5], [.int x5, .int x2, .ref 2], hp E w)) hM_14 3 rfl ?_
  refine Ev.callR hd hM_14 rfl (y := 48) (as := [.ref 2, .int x2, .int x5]) (rest := []) rfl (Nat.le_of_ble_eq_true rfl) h1 ?_
  refine Ev.run (c' := (48, [.ref 12, .ref 2, .int x2, .int x3, .int x4, .int x5], [.int v1], hp E w1)) hM_14 0 rfl ?_
  refine Ev.ifF hM_14 rfl (cI_eqF c2) ?_
  refine Ev.run (c' := (60, [.ref 12, .ref 2, .int x2, .int x3, .int x4, .int x5], [.int x3, .int x5, .ref 17, .int x4], hp E w1)) hM_14 5 rfl ?_
  refine Ev.callR hd hM_14 rfl (y := 8) (as := [.int x5, .int x3]) (rest := [.ref 17, .int x4]) rfl (Nat.le_of_ble_eq_true rfl) (pair_spec) ?_
  refine Ev.run (c' := (63, [.ref 12, .ref 2, .int x2, .int x3, .int x4, .int x5], [.int ((x5 * (10 : Int32)) + x3), .ref 17, .int x4], hp E w1)) hM_14 0 rfl ?_
  rw [g1]
  refine Ev.callR hd hM_14 rfl (y := 55) (as := [.ref 17, .int (I j1)]) (rest := [.int x4]) rfl (Nat.le_of_ble_eq_true rfl) (row_at (a := 17) (b := 18) (n := 90) rfl rfl (by decide) b1) ?_
  refine Ev.run (c' := (32, [.ref 12, .ref 2, .int x2, .int x3, .int (x4 ||| (rv 90 (gA w1 6) j1)), .int (x5 + (1 : Int32))], [], hp E w1)) hM_14 4 rfl ?_
  exact e
theorem p14_32_b {E : Nat × (Nat → Int32)} {w : Wd} {d : Nat} {x2 x3 x4 x5 : Int32} {o : Ou} {w1 : Wd} {v1 : Int32} {y5 : Int32} (hd : 1 ≤ d) (c1 : x5 < (gF w 1)) (h1 : Ev (d - 1) 48 (ent0 48 [.ref 2, .int x2, .int x5] (hp E w)) (.inl (some (.int v1)), hp E w1)) (c2 : v1 = 0) (q5 : (x5 + (1 : Int32)) = y5) (e : Ev d 14 (32, [.ref 12, .ref 2, .int x2, .int x3, .int x4, .int y5], [], hp E w1) o) : Ev d 14 (32, [.ref 12, .ref 2, .int x2, .int x3, .int x4, .int x5], [], hp E w) o := by
  subst q5
  refine Ev.run (c' := (35, [.ref 12, .ref 2, .int x2, .int x3, .int x4, .int x5], [.ref 2, .int x5], hp E w)) hM_14 2 rfl ?_
  refine Ev.callR hd hM_14 rfl (y := 39) (as := [.ref 2]) (rest := [.int x5]) rfl (Nat.le_of_ble_eq_true rfl) (Ev.run (c' := (4, [.ref 2], [.int (gF w 1)], hp E w)) hM_39 2 rfl (Ev.fin hM_39 rfl rfl)) ?_
  refine Ev.run (c' := (38, [.ref 12, .ref 2, .int x2, .int x3, .int x4, .int x5], [.int (gF w 1), .int x5], hp E w)) hM_14 0 rfl ?_
  refine Ev.icF hM_14 rfl (cI_geF c1) ?_
  refine Ev.run (c' := (45, [.ref 12, .ref 2, .int x2, .int x3, .int x4, .int x5], [.int x5, .int x2, .ref 2], hp E w)) hM_14 3 rfl ?_
  refine Ev.callR hd hM_14 rfl (y := 48) (as := [.ref 2, .int x2, .int x5]) (rest := []) rfl (Nat.le_of_ble_eq_true rfl) h1 ?_
  refine Ev.run (c' := (48, [.ref 12, .ref 2, .int x2, .int x3, .int x4, .int x5], [.int v1], hp E w1)) hM_14 0 rfl ?_
  refine Ev.ifT hM_14 rfl (cI_eqT c2) ?_
  refine Ev.run (c' := (32, [.ref 12, .ref 2, .int x2, .int x3, .int x4, .int (x5 + (1 : Int32))], [], hp E w1)) hM_14 2 rfl ?_
  exact e
theorem p14_32_c {E : Nat × (Nat → Int32)} {w : Wd} {d : Nat} {x2 x3 x4 x5 : Int32} {o : Ou} {j1 : Nat} {y3 : Int32} {w' : Wd} (hd : 1 ≤ d) (c1 : ¬ x5 < (gF w 1)) (g1 : ((x2 * (10 : Int32)) + x3) = I j1) (b1 : j1 < 2147483648) (q3 : (x3 + (1 : Int32)) = y3) (qw : (sA 7 (rp 90 (gA w 7) j1 x4) w) = w') (e : Ev d 14 (12, [.ref 12, .ref 2, .int x2, .int y3, .int x4, .int x5], [], hp E w') o) : Ev d 14 (32, [.ref 12, .ref 2, .int x2, .int x3, .int x4, .int x5], [], hp E w) o := by
  subst qw
  subst q3
  refine Ev.run (c' := (35, [.ref 12, .ref 2, .int x2, .int x3, .int x4, .int x5], [.ref 2, .int x5], hp E w)) hM_14 2 rfl ?_
  refine Ev.callR hd hM_14 rfl (y := 39) (as := [.ref 2]) (rest := [.int x5]) rfl (Nat.le_of_ble_eq_true rfl) (Ev.run (c' := (4, [.ref 2], [.int (gF w 1)], hp E w)) hM_39 2 rfl (Ev.fin hM_39 rfl rfl)) ?_
  refine Ev.run (c' := (38, [.ref 12, .ref 2, .int x2, .int x3, .int x4, .int x5], [.int (gF w 1), .int x5], hp E w)) hM_14 0 rfl ?_
  refine Ev.icT hM_14 rfl (cI_geT c1) ?_
  refine Ev.run (c' := (81, [.ref 12, .ref 2, .int x2, .int x3, .int x4, .int x5], [.int x3, .int x2, .ref 19], hp E w)) hM_14 4 rfl ?_
  refine Ev.callR hd hM_14 rfl (y := 8) (as := [.int x2, .int x3]) (rest := [.ref 19]) rfl (Nat.le_of_ble_eq_true rfl) (pair_spec) ?_
  refine Ev.run (c' := (86, [.ref 12, .ref 2, .int x2, .int x3, .int x4, .int x5], [.int x4, .int ((x2 * (10 : Int32)) + x3), .ref 19], hp E w)) hM_14 1 rfl ?_
  rw [g1]
  refine Ev.callR hd hM_14 rfl (y := 56) (as := [.ref 19, .int (I j1), .int x4]) (rest := []) rfl (Nat.le_of_ble_eq_true rfl) (row_put (a := 19) (b := 19) (n := 90) rfl rfl (by decide) b1 (h' := hp E (sA 7 (rp 90 (gA w 7) j1 x4) w)) rfl) ?_
  refine Ev.run (c' := (12, [.ref 12, .ref 2, .int x2, .int (x3 + (1 : Int32)), .int x4, .int x5], [], hp E (sA 7 (rp 90 (gA w 7) j1 x4) w))) hM_14 2 rfl ?_
  exact e
theorem hM_15 : mAt 15 = some km_X1_letSecondCopMove := rfl
theorem p15_e_a {E : Nat × (Nat → Int32)} {w : Wd} {d : Nat} {x2 : Int32} {o : Ou}  (e : Ev d 15 (5, [.ref 12, .ref 2, .int x2, .int (0 : Int32), .int (0 : Int32), jk, jk, jk], [], hp E w) o) : Ev d 15 (ent0 15 [.ref 12, .ref 2, .int x2] (hp E w)) o := by
  refine Ev.run (c' := (5, [.ref 12, .ref 2, .int x2, .int (0 : Int32), .int (0 : Int32), jk, jk, jk], [], hp E w)) hM_15 4 rfl ?_
  exact e
theorem p15_5_a {E : Nat × (Nat → Int32)} {w : Wd} {d : Nat} {x2 x3 x4 : Int32} {u5 u6 u7 : Value} {o : Ou}  (hd : 1 ≤ d) (c1 : x4 < (gF w 1)) (e : Ev d 15 (17, [.ref 12, .ref 2, .int x2, .int x3, .int x4, .int (0 : Int32), u6, u7], [], hp E w) o) : Ev d 15 (5, [.ref 12, .ref 2, .int x2, .int x3, .int x4, u5, u6, u7], [], hp E w) o := by
  refine Ev.run (c' := (8, [.ref 12, .ref 2, .int x2, .int x3, .int x4, u5, u6, u7], [.ref 2, .int x4], hp E w)) hM_15 2 rfl ?_
  refine Ev.callR hd hM_15 rfl (y := 39) (as := [.ref 2]) (rest := [.int x4]) rfl (Nat.le_of_ble_eq_true rfl) (Ev.run (c' := (4, [.ref 2], [.int (gF w 1)], hp E w)) hM_39 2 rfl (Ev.fin hM_39 rfl rfl)) ?_
  refine Ev.run (c' := (11, [.ref 12, .ref 2, .int x2, .int x3, .int x4, u5, u6, u7], [.int (gF w 1), .int x4], hp E w)) hM_15 0 rfl ?_
  refine Ev.icF hM_15 rfl (cI_geF c1) ?_
  refine Ev.run (c' := (17, [.ref 12, .ref 2, .int x2, .int x3, .int x4, .int (0 : Int32), u6, u7], [], hp E w)) hM_15 2 rfl ?_
  exact e
theorem p15_5_b {E : Nat × (Nat → Int32)} {w : Wd} {d : Nat} {x2 x3 x4 : Int32} {u5 u6 u7 : Value}  (hd : 1 ≤ d) (c1 : ¬ x4 < (gF w 1)) (hb : x3 &&& 1 = x3) : Ev d 15 (5, [.ref 12, .ref 2, .int x2, .int x3, .int x4, u5, u6, u7], [], hp E w) (.inl (some (.int x3)), hp E w) := by
  refine Ev.run (c' := (8, [.ref 12, .ref 2, .int x2, .int x3, .int x4, u5, u6, u7], [.ref 2, .int x4], hp E w)) hM_15 2 rfl ?_
  refine Ev.callR hd hM_15 rfl (y := 39) (as := [.ref 2]) (rest := [.int x4]) rfl (Nat.le_of_ble_eq_true rfl) (Ev.run (c' := (4, [.ref 2], [.int (gF w 1)], hp E w)) hM_39 2 rfl (Ev.fin hM_39 rfl rfl)) ?_
  refine Ev.run (c' := (11, [.ref 12, .ref 2, .int x2, .int x3, .int x4, u5, u6, u7], [.int (gF w 1), .int x4], hp E w)) hM_15 0 rfl ?_
  refine Ev.icT hM_15 rfl (cI_geT c1) ?_
  refine Ev.run (c' := (110, [.ref 12, .ref 2, .int x2, .int x3, .int x4, u5, u6, u7], [.int x3], hp E w)) hM_15 1 rfl ?_
  exact Ev.finZ hM_15 rfl rfl hb
theorem p15_17_a {E : Nat × (Nat → Int32)} {w : Wd} {d : Nat} {x2 x3 x4 x5 : Int32} {u6 u7 : Value} {o : Ou} {w1 : Wd} {v1 : Int32} (hd : 1 ≤ d) (c1 : x5 < (10 : Int32)) (h1 : Ev (d - 1) 46 (ent0 46 [.ref 2, .int x5] (hp E w)) (.inl (some (.int v1)), hp E w1)) (c2 : ¬ v1 = 0) (e : Ev d 15 (39, [.ref 12, .ref 2, .int x2, .int x3, .int x4, .int x5, .int (0 : Int32), .int (0 : Int32)], [], hp E w1) o) : Ev d 15 (17, [.ref 12, .ref 2, .int x2, .int x3, .int x4, .int x5, u6, u7], [], hp E w) o := by
  refine Ev.run (c' := (21, [.ref 12, .ref 2, .int x2, .int x3, .int x4, .int x5, u6, u7], [.int (10 : Int32), .int x5], hp E w)) hM_15 2 rfl ?_
  refine Ev.icF hM_15 rfl (cI_geF c1) ?_
  refine Ev.run (c' := (27, [.ref 12, .ref 2, .int x2, .int x3, .int x4, .int x5, u6, u7], [.int x5, .ref 2], hp E w)) hM_15 2 rfl ?_
  refine Ev.callR hd hM_15 rfl (y := 46) (as := [.ref 2, .int x5]) (rest := []) rfl (Nat.le_of_ble_eq_true rfl) h1 ?_
  refine Ev.run (c' := (30, [.ref 12, .ref 2, .int x2, .int x3, .int x4, .int x5, u6, u7], [.int v1], hp E w1)) hM_15 0 rfl ?_
  refine Ev.ifF hM_15 rfl (cI_eqF c2) ?_
  refine Ev.run (c' := (39, [.ref 12, .ref 2, .int x2, .int x3, .int x4, .int x5, .int (0 : Int32), .int (0 : Int32)], [], hp E w1)) hM_15 4 rfl ?_
  exact e
theorem p15_17_b {E : Nat × (Nat → Int32)} {w : Wd} {d : Nat} {x2 x3 x4 x5 : Int32} {u6 u7 : Value} {o : Ou} {w1 : Wd} {v1 : Int32} {y5 : Int32} (hd : 1 ≤ d) (c1 : x5 < (10 : Int32)) (h1 : Ev (d - 1) 46 (ent0 46 [.ref 2, .int x5] (hp E w)) (.inl (some (.int v1)), hp E w1)) (c2 : v1 = 0) (q5 : (x5 + (1 : Int32)) = y5) (e : Ev d 15 (17, [.ref 12, .ref 2, .int x2, .int x3, .int x4, .int y5, u6, u7], [], hp E w1) o) : Ev d 15 (17, [.ref 12, .ref 2, .int x2, .int x3, .int x4, .int x5, u6, u7], [], hp E w) o := by
  subst q5
  refine Ev.run (c' := (21, [.ref 12, .ref 2, .int x2, .int x3, .int x4, .int x5, u6, u7], [.int (10 : Int32), .int x5], hp E w)) hM_15 2 rfl ?_
  refine Ev.icF hM_15 rfl (cI_geF c1) ?_
  refine Ev.run (c' := (27, [.ref 12, .ref 2, .int x2, .int x3, .int x4, .int x5, u6, u7], [.int x5, .ref 2], hp E w)) hM_15 2 rfl ?_
  refine Ev.callR hd hM_15 rfl (y := 46) (as := [.ref 2, .int x5]) (rest := []) rfl (Nat.le_of_ble_eq_true rfl) h1 ?_
  refine Ev.run (c' := (30, [.ref 12, .ref 2, .int x2, .int x3, .int x4, .int x5, u6, u7], [.int v1], hp E w1)) hM_15 0 rfl ?_
  refine Ev.ifT hM_15 rfl (cI_eqT c2) ?_
  refine Ev.run (c' := (17, [.ref 12, .ref 2, .int x2, .int x3, .int x4, .int (x5 + (1 : Int32)), u6, u7], [], hp E w1)) hM_15 2 rfl ?_
  exact e
theorem p15_17_c {E : Nat × (Nat → Int32)} {w : Wd} {d : Nat} {x2 x3 x4 x5 : Int32} {u6 u7 : Value} {o : Ou} {y4 : Int32} (c1 : ¬ x5 < (10 : Int32)) (q4 : (x4 + (1 : Int32)) = y4) (e : Ev d 15 (5, [.ref 12, .ref 2, .int x2, .int x3, .int y4, .int x5, u6, u7], [], hp E w) o) : Ev d 15 (17, [.ref 12, .ref 2, .int x2, .int x3, .int x4, .int x5, u6, u7], [], hp E w) o := by
  subst q4
  refine Ev.run (c' := (21, [.ref 12, .ref 2, .int x2, .int x3, .int x4, .int x5, u6, u7], [.int (10 : Int32), .int x5], hp E w)) hM_15 2 rfl ?_
  refine Ev.icT hM_15 rfl (cI_geT c1) ?_
  refine Ev.run (c' := (5, [.ref 12, .ref 2, .int x2, .int x3, .int (x4 + (1 : Int32)), .int x5, u6, u7], [], hp E w)) hM_15 2 rfl ?_
  exact e
theorem p15_39_a {E : Nat × (Nat → Int32)} {w : Wd} {d : Nat} {x2 x3 x4 x5 x6 x7 : Int32} {o : Ou} {w1 : Wd} {v1 : Int32} {j1 : Nat} {y6 : Int32} {y7 : Int32} (hd : 1 ≤ d) (c1 : x7 < (10 : Int32)) (h1 : Ev (d - 1) 48 (ent0 48 [.ref 2, .int x5, .int x7] (hp E w)) (.inl (some (.int v1)), hp E w1)) (c2 : ¬ v1 = 0) (g1 : ((x4 * (10 : Int32)) + x7) = I j1) (b1 : j1 < 2147483648) (q6 : (x6 ||| (rv 90 (gA w1 7) j1)) = y6) (q7 : (x7 + (1 : Int32)) = y7) (e : Ev d 15 (39, [.ref 12, .ref 2, .int x2, .int x3, .int x4, .int x5, .int y6, .int y7], [], hp E w1) o) : Ev d 15 (39, [.ref 12, .ref 2, .int x2, .int x3, .int x4, .int x5, .int x6, .int x7], [], hp E w) o := by
  subst q7
  subst q6
  refine Ev.run (c' := (43, [.ref 12, .ref 2, .int x2, .int x3, .int x4, .int x5, .int x6, .int x7], [.int (10 : Int32), .int x7], hp E w)) hM_15 2 rfl ?_
  refine Ev.icF hM_15 rfl (cI_geF c1) ?_
  refine Ev.run (c' := (51, [.ref 12, .ref 2, .int x2, .int x3, .int x4, .int x5, .int x6, .int x7], [.int x7, .int x5, .ref 2], hp E w)) hM_15 3 rfl ?_
  refine Ev.callR hd hM_15 rfl (y := 48) (as := [.ref 2, .int x5, .int x7]) (rest := []) rfl (Nat.le_of_ble_eq_true rfl) h1 ?_
  refine Ev.run (c' := (54, [.ref 12, .ref 2, .int x2, .int x3, .int x4, .int x5, .int x6, .int x7], [.int v1], hp E w1)) hM_15 0 rfl ?_
  refine Ev.ifF hM_15 rfl (cI_eqF c2) ?_
  refine Ev.run (c' := (67, [.ref 12, .ref 2, .int x2, .int x3, .int x4, .int x5, .int x6, .int x7], [.int x7, .int x4, .ref 19, .int x6], hp E w1)) hM_15 5 rfl ?_
  refine Ev.callR hd hM_15 rfl (y := 8) (as := [.int x4, .int x7]) (rest := [.ref 19, .int x6]) rfl (Nat.le_of_ble_eq_true rfl) (pair_spec) ?_
  refine Ev.run (c' := (70, [.ref 12, .ref 2, .int x2, .int x3, .int x4, .int x5, .int x6, .int x7], [.int ((x4 * (10 : Int32)) + x7), .ref 19, .int x6], hp E w1)) hM_15 0 rfl ?_
  rw [g1]
  refine Ev.callR hd hM_15 rfl (y := 55) (as := [.ref 19, .int (I j1)]) (rest := [.int x6]) rfl (Nat.le_of_ble_eq_true rfl) (row_at (a := 19) (b := 20) (n := 90) rfl rfl (by decide) b1) ?_
  refine Ev.run (c' := (39, [.ref 12, .ref 2, .int x2, .int x3, .int x4, .int x5, .int (x6 ||| (rv 90 (gA w1 7) j1)), .int (x7 + (1 : Int32))], [], hp E w1)) hM_15 4 rfl ?_
  exact e
theorem p15_39_b {E : Nat × (Nat → Int32)} {w : Wd} {d : Nat} {x2 x3 x4 x5 x6 x7 : Int32} {o : Ou} {w1 : Wd} {v1 : Int32} {y7 : Int32} (hd : 1 ≤ d) (c1 : x7 < (10 : Int32)) (h1 : Ev (d - 1) 48 (ent0 48 [.ref 2, .int x5, .int x7] (hp E w)) (.inl (some (.int v1)), hp E w1)) (c2 : v1 = 0) (q7 : (x7 + (1 : Int32)) = y7) (e : Ev d 15 (39, [.ref 12, .ref 2, .int x2, .int x3, .int x4, .int x5, .int x6, .int y7], [], hp E w1) o) : Ev d 15 (39, [.ref 12, .ref 2, .int x2, .int x3, .int x4, .int x5, .int x6, .int x7], [], hp E w) o := by
  subst q7
  refine Ev.run (c' := (43, [.ref 12, .ref 2, .int x2, .int x3, .int x4, .int x5, .int x6, .int x7], [.int (10 : Int32), .int x7], hp E w)) hM_15 2 rfl ?_
  refine Ev.icF hM_15 rfl (cI_geF c1) ?_
  refine Ev.run (c' := (51, [.ref 12, .ref 2, .int x2, .int x3, .int x4, .int x5, .int x6, .int x7], [.int x7, .int x5, .ref 2], hp E w)) hM_15 3 rfl ?_
  refine Ev.callR hd hM_15 rfl (y := 48) (as := [.ref 2, .int x5, .int x7]) (rest := []) rfl (Nat.le_of_ble_eq_true rfl) h1 ?_
  refine Ev.run (c' := (54, [.ref 12, .ref 2, .int x2, .int x3, .int x4, .int x5, .int x6, .int x7], [.int v1], hp E w1)) hM_15 0 rfl ?_
  refine Ev.ifT hM_15 rfl (cI_eqT c2) ?_
  refine Ev.run (c' := (39, [.ref 12, .ref 2, .int x2, .int x3, .int x4, .int x5, .int x6, .int (x7 + (1 : Int32))], [], hp E w1)) hM_15 2 rfl ?_
  exact e
theorem p15_39_c {E : Nat × (Nat → Int32)} {w : Wd} {d : Nat} {x2 x3 x4 x5 x6 x7 : Int32} {o : Ou} {w1 : Wd} {v1 : Int32} {y3 : Int32} {y5 : Int32} (hd : 1 ≤ d) (c1 : ¬ x7 < (10 : Int32)) (h1 : Ev (d - 1) 11 (ent0 11 [.ref 12, .ref 2, .int x4, .int x5, .int x6, .int x2] (hp E w)) (.inl (some (.int v1)), hp E w1)) (q3 : (x3 ||| v1) = y3) (q5 : (x5 + (1 : Int32)) = y5) (e : Ev d 15 (17, [.ref 12, .ref 2, .int x2, .int y3, .int x4, .int y5, .int x6, .int x7], [], hp E w1) o) : Ev d 15 (39, [.ref 12, .ref 2, .int x2, .int x3, .int x4, .int x5, .int x6, .int x7], [], hp E w) o := by
  subst q5
  subst q3
  refine Ev.run (c' := (43, [.ref 12, .ref 2, .int x2, .int x3, .int x4, .int x5, .int x6, .int x7], [.int (10 : Int32), .int x7], hp E w)) hM_15 2 rfl ?_
  refine Ev.icT hM_15 rfl (cI_geT c1) ?_
  refine Ev.run (c' := (92, [.ref 12, .ref 2, .int x2, .int x3, .int x4, .int x5, .int x6, .int x7], [.int x2, .int x6, .int x5, .int x4, .ref 2, .ref 12, .int x3], hp E w)) hM_15 7 rfl ?_
  refine Ev.callR hd hM_15 rfl (y := 11) (as := [.ref 12, .ref 2, .int x4, .int x5, .int x6, .int x2]) (rest := [.int x3]) rfl (Nat.le_of_ble_eq_true rfl) h1 ?_
  refine Ev.run (c' := (17, [.ref 12, .ref 2, .int x2, .int (x3 ||| v1), .int x4, .int (x5 + (1 : Int32)), .int x6, .int x7], [], hp E w1)) hM_15 4 rfl ?_
  exact e
theorem hM_16 : mAt 16 = some km_X1_copsFirst := rfl
theorem p16_e_a {E : Nat × (Nat → Int32)} {w : Wd} {d : Nat} {x1 x2 x3 : Int32} {j1 : Nat} {y : Int32} (hd2 : 2 ≤ d) (g1 : ((((x1 * (10 : Int32)) + x2) * (9 : Int32)) + x3) = I j1) (b1 : j1 < 2147483648) (q : (rv 810 (gA w 4) j1) = y) : Ev d 16 (ent0 16 [.ref 12, .int x1, .int x2, .int x3] (hp E w)) (.inl (some (.int y)), hp E w) := by
  have hd : 1 ≤ d := Nat.le_trans (by decide) hd2
  subst q
  refine Ev.run (c' := (7, [.ref 12, .int x1, .int x2, .int x3], [.int x3, .int x2, .int x1, .ref 13], hp E w)) hM_16 5 rfl ?_
  refine Ev.callR hd hM_16 rfl (y := 9) (as := [.int x1, .int x2, .int x3]) (rest := [.ref 13]) rfl (Nat.le_of_ble_eq_true rfl) (cell_spec hd2) ?_
  refine Ev.run (c' := (10, [.ref 12, .int x1, .int x2, .int x3], [.int ((((x1 * (10 : Int32)) + x2) * (9 : Int32)) + x3), .ref 13], hp E w)) hM_16 0 rfl ?_
  rw [g1]
  refine Ev.callR hd hM_16 rfl (y := 55) (as := [.ref 13, .int (I j1)]) (rest := []) rfl (Nat.le_of_ble_eq_true rfl) (row_at (a := 13) (b := 14) (n := 810) rfl rfl (by decide) b1) ?_
  refine Ev.run (c' := (13, [.ref 12, .int x1, .int x2, .int x3], [.int (rv 810 (gA w 4) j1)], hp E w)) hM_16 0 rfl ?_
  exact Ev.fin hM_16 rfl rfl
theorem hM_17 : mAt 17 = some km_X1_robberFirst := rfl
theorem p17_e_a {E : Nat × (Nat → Int32)} {w : Wd} {d : Nat} {x2 x3 x4 : Int32}  (c1 : ¬ x4 = x2) (c2 : x4 = x3) : Ev d 17 (ent0 17 [.ref 12, .ref 2, .int x2, .int x3, .int x4] (hp E w)) (.inl (some (.int (0 : Int32))), hp E w) := by
  refine Ev.run (c' := (3, [.ref 12, .ref 2, .int x2, .int x3, .int x4, jk, jk, jk], [.int x2, .int x4], hp E w)) hM_17 2 rfl ?_
  refine Ev.icF hM_17 rfl (cI_eqF c1) ?_
  refine Ev.run (c' := (9, [.ref 12, .ref 2, .int x2, .int x3, .int x4, jk, jk, jk], [.int x3, .int x4], hp E w)) hM_17 2 rfl ?_
  refine Ev.icF hM_17 rfl (cI_neF c2) ?_
  refine Ev.run (c' := (13, [.ref 12, .ref 2, .int x2, .int x3, .int x4, jk, jk, jk], [.int (0 : Int32)], hp E w)) hM_17 1 rfl ?_
  exact Ev.fin hM_17 rfl rfl
theorem p17_e_b {E : Nat × (Nat → Int32)} {w : Wd} {d : Nat} {x2 x3 x4 : Int32} {o : Ou}  (c1 : ¬ x4 = x2) (c2 : ¬ x4 = x3) (e : Ev d 17 (20, [.ref 12, .ref 2, .int x2, .int x3, .int x4, .int (0 : Int32), .int (0 : Int32), jk], [], hp E w) o) : Ev d 17 (ent0 17 [.ref 12, .ref 2, .int x2, .int x3, .int x4] (hp E w)) o := by
  refine Ev.run (c' := (3, [.ref 12, .ref 2, .int x2, .int x3, .int x4, jk, jk, jk], [.int x2, .int x4], hp E w)) hM_17 2 rfl ?_
  refine Ev.icF hM_17 rfl (cI_eqF c1) ?_
  refine Ev.run (c' := (9, [.ref 12, .ref 2, .int x2, .int x3, .int x4, jk, jk, jk], [.int x3, .int x4], hp E w)) hM_17 2 rfl ?_
  refine Ev.icT hM_17 rfl (cI_neT c2) ?_
  refine Ev.run (c' := (20, [.ref 12, .ref 2, .int x2, .int x3, .int x4, .int (0 : Int32), .int (0 : Int32), jk], [], hp E w)) hM_17 4 rfl ?_
  exact e
theorem p17_e_c {E : Nat × (Nat → Int32)} {w : Wd} {d : Nat} {x2 x3 x4 : Int32}  (c1 : x4 = x2) : Ev d 17 (ent0 17 [.ref 12, .ref 2, .int x2, .int x3, .int x4] (hp E w)) (.inl (some (.int (0 : Int32))), hp E w) := by
  refine Ev.run (c' := (3, [.ref 12, .ref 2, .int x2, .int x3, .int x4, jk, jk, jk], [.int x2, .int x4], hp E w)) hM_17 2 rfl ?_
  refine Ev.icT hM_17 rfl (cI_eqT c1) ?_
  refine Ev.run (c' := (13, [.ref 12, .ref 2, .int x2, .int x3, .int x4, jk, jk, jk], [.int (0 : Int32)], hp E w)) hM_17 1 rfl ?_
  exact Ev.fin hM_17 rfl rfl
theorem p17_20_a {E : Nat × (Nat → Int32)} {w : Wd} {d : Nat} {x2 x3 x4 x5 x6 : Int32} {u7 : Value} {w1 : Wd} {v1 : Int32} {w2 : Wd} {v2 : Int32} (hd : 1 ≤ d) (c1 : x6 < (gF w 1)) (h1 : Ev (d - 1) 48 (ent0 48 [.ref 2, .int x4, .int x6] (hp E w)) (.inl (some (.int v1)), hp E w1)) (c2 : ¬ v1 = 0) (h2 : Ev (d - 1) 16 (ent0 16 [.ref 12, .int x2, .int x3, .int x6] (hp E w1)) (.inl (some (.int v2)), hp E w2)) (c3 : v2 = (-1 : Int32)) : Ev d 17 (20, [.ref 12, .ref 2, .int x2, .int x3, .int x4, .int x5, .int x6, u7], [], hp E w) (.inl (some (.int (-1 : Int32))), hp E w2) := by
  refine Ev.run (c' := (23, [.ref 12, .ref 2, .int x2, .int x3, .int x4, .int x5, .int x6, u7], [.ref 2, .int x6], hp E w)) hM_17 2 rfl ?_
  refine Ev.callR hd hM_17 rfl (y := 39) (as := [.ref 2]) (rest := [.int x6]) rfl (Nat.le_of_ble_eq_true rfl) (Ev.run (c' := (4, [.ref 2], [.int (gF w 1)], hp E w)) hM_39 2 rfl (Ev.fin hM_39 rfl rfl)) ?_
  refine Ev.run (c' := (26, [.ref 12, .ref 2, .int x2, .int x3, .int x4, .int x5, .int x6, u7], [.int (gF w 1), .int x6], hp E w)) hM_17 0 rfl ?_
  refine Ev.icF hM_17 rfl (cI_geF c1) ?_
  refine Ev.run (c' := (34, [.ref 12, .ref 2, .int x2, .int x3, .int x4, .int x5, .int x6, u7], [.int x6, .int x4, .ref 2], hp E w)) hM_17 3 rfl ?_
  refine Ev.callR hd hM_17 rfl (y := 48) (as := [.ref 2, .int x4, .int x6]) (rest := []) rfl (Nat.le_of_ble_eq_true rfl) h1 ?_
  refine Ev.run (c' := (37, [.ref 12, .ref 2, .int x2, .int x3, .int x4, .int x5, .int x6, u7], [.int v1], hp E w1)) hM_17 0 rfl ?_
  refine Ev.ifF hM_17 rfl (cI_eqF c2) ?_
  refine Ev.run (c' := (45, [.ref 12, .ref 2, .int x2, .int x3, .int x4, .int x5, .int x6, u7], [.int x6, .int x3, .int x2, .ref 12], hp E w1)) hM_17 4 rfl ?_
  refine Ev.callR hd hM_17 rfl (y := 16) (as := [.ref 12, .int x2, .int x3, .int x6]) (rest := []) rfl (Nat.le_of_ble_eq_true rfl) h2 ?_
  refine Ev.run (c' := (53, [.ref 12, .ref 2, .int x2, .int x3, .int x4, .int x5, .int x6, .int v2], [.int (-1 : Int32), .int v2], hp E w2)) hM_17 3 rfl ?_
  refine Ev.icF hM_17 rfl (cI_neF c3) ?_
  refine Ev.run (c' := (57, [.ref 12, .ref 2, .int x2, .int x3, .int x4, .int x5, .int x6, .int v2], [.int (-1 : Int32)], hp E w2)) hM_17 1 rfl ?_
  exact Ev.fin hM_17 rfl rfl
theorem p17_20_b {E : Nat × (Nat → Int32)} {w : Wd} {d : Nat} {x2 x3 x4 x5 x6 : Int32} {u7 : Value} {o : Ou} {w1 : Wd} {v1 : Int32} {w2 : Wd} {v2 : Int32} {y5 : Int32} {y6 : Int32} (hd : 1 ≤ d) (c1 : x6 < (gF w 1)) (h1 : Ev (d - 1) 48 (ent0 48 [.ref 2, .int x4, .int x6] (hp E w)) (.inl (some (.int v1)), hp E w1)) (c2 : ¬ v1 = 0) (h2 : Ev (d - 1) 16 (ent0 16 [.ref 12, .int x2, .int x3, .int x6] (hp E w1)) (.inl (some (.int v2)), hp E w2)) (c3 : ¬ v2 = (-1 : Int32)) (q5 : (if x5 < v2 then v2 else x5) = y5) (q6 : (x6 + (1 : Int32)) = y6) (e : Ev d 17 (20, [.ref 12, .ref 2, .int x2, .int x3, .int x4, .int y5, .int y6, .int v2], [], hp E w2) o) : Ev d 17 (20, [.ref 12, .ref 2, .int x2, .int x3, .int x4, .int x5, .int x6, u7], [], hp E w) o := by
  subst q6
  subst q5
  refine Ev.run (c' := (23, [.ref 12, .ref 2, .int x2, .int x3, .int x4, .int x5, .int x6, u7], [.ref 2, .int x6], hp E w)) hM_17 2 rfl ?_
  refine Ev.callR hd hM_17 rfl (y := 39) (as := [.ref 2]) (rest := [.int x6]) rfl (Nat.le_of_ble_eq_true rfl) (Ev.run (c' := (4, [.ref 2], [.int (gF w 1)], hp E w)) hM_39 2 rfl (Ev.fin hM_39 rfl rfl)) ?_
  refine Ev.run (c' := (26, [.ref 12, .ref 2, .int x2, .int x3, .int x4, .int x5, .int x6, u7], [.int (gF w 1), .int x6], hp E w)) hM_17 0 rfl ?_
  refine Ev.icF hM_17 rfl (cI_geF c1) ?_
  refine Ev.run (c' := (34, [.ref 12, .ref 2, .int x2, .int x3, .int x4, .int x5, .int x6, u7], [.int x6, .int x4, .ref 2], hp E w)) hM_17 3 rfl ?_
  refine Ev.callR hd hM_17 rfl (y := 48) (as := [.ref 2, .int x4, .int x6]) (rest := []) rfl (Nat.le_of_ble_eq_true rfl) h1 ?_
  refine Ev.run (c' := (37, [.ref 12, .ref 2, .int x2, .int x3, .int x4, .int x5, .int x6, u7], [.int v1], hp E w1)) hM_17 0 rfl ?_
  refine Ev.ifF hM_17 rfl (cI_eqF c2) ?_
  refine Ev.run (c' := (45, [.ref 12, .ref 2, .int x2, .int x3, .int x4, .int x5, .int x6, u7], [.int x6, .int x3, .int x2, .ref 12], hp E w1)) hM_17 4 rfl ?_
  refine Ev.callR hd hM_17 rfl (y := 16) (as := [.ref 12, .int x2, .int x3, .int x6]) (rest := []) rfl (Nat.le_of_ble_eq_true rfl) h2 ?_
  refine Ev.run (c' := (53, [.ref 12, .ref 2, .int x2, .int x3, .int x4, .int x5, .int x6, .int v2], [.int (-1 : Int32), .int v2], hp E w2)) hM_17 3 rfl ?_
  refine Ev.icT hM_17 rfl (cI_neT c3) ?_
  refine Ev.run (c' := (20, [.ref 12, .ref 2, .int x2, .int x3, .int x4, .int (if x5 < v2 then v2 else x5), .int (x6 + (1 : Int32)), .int v2], [], hp E w2)) hM_17 6 rfl ?_
  exact e
theorem p17_20_c {E : Nat × (Nat → Int32)} {w : Wd} {d : Nat} {x2 x3 x4 x5 x6 : Int32} {u7 : Value} {o : Ou} {w1 : Wd} {v1 : Int32} {y6 : Int32} (hd : 1 ≤ d) (c1 : x6 < (gF w 1)) (h1 : Ev (d - 1) 48 (ent0 48 [.ref 2, .int x4, .int x6] (hp E w)) (.inl (some (.int v1)), hp E w1)) (c2 : v1 = 0) (q6 : (x6 + (1 : Int32)) = y6) (e : Ev d 17 (20, [.ref 12, .ref 2, .int x2, .int x3, .int x4, .int x5, .int y6, u7], [], hp E w1) o) : Ev d 17 (20, [.ref 12, .ref 2, .int x2, .int x3, .int x4, .int x5, .int x6, u7], [], hp E w) o := by
  subst q6
  refine Ev.run (c' := (23, [.ref 12, .ref 2, .int x2, .int x3, .int x4, .int x5, .int x6, u7], [.ref 2, .int x6], hp E w)) hM_17 2 rfl ?_
  refine Ev.callR hd hM_17 rfl (y := 39) (as := [.ref 2]) (rest := [.int x6]) rfl (Nat.le_of_ble_eq_true rfl) (Ev.run (c' := (4, [.ref 2], [.int (gF w 1)], hp E w)) hM_39 2 rfl (Ev.fin hM_39 rfl rfl)) ?_
  refine Ev.run (c' := (26, [.ref 12, .ref 2, .int x2, .int x3, .int x4, .int x5, .int x6, u7], [.int (gF w 1), .int x6], hp E w)) hM_17 0 rfl ?_
  refine Ev.icF hM_17 rfl (cI_geF c1) ?_
  refine Ev.run (c' := (34, [.ref 12, .ref 2, .int x2, .int x3, .int x4, .int x5, .int x6, u7], [.int x6, .int x4, .ref 2], hp E w)) hM_17 3 rfl ?_
  refine Ev.callR hd hM_17 rfl (y := 48) (as := [.ref 2, .int x4, .int x6]) (rest := []) rfl (Nat.le_of_ble_eq_true rfl) h1 ?_
  refine Ev.run (c' := (37, [.ref 12, .ref 2, .int x2, .int x3, .int x4, .int x5, .int x6, u7], [.int v1], hp E w1)) hM_17 0 rfl ?_
  refine Ev.ifT hM_17 rfl (cI_eqT c2) ?_
  refine Ev.run (c' := (20, [.ref 12, .ref 2, .int x2, .int x3, .int x4, .int x5, .int (x6 + (1 : Int32)), u7], [], hp E w1)) hM_17 2 rfl ?_
  exact e
theorem p17_20_d {E : Nat × (Nat → Int32)} {w : Wd} {d : Nat} {x2 x3 x4 x5 x6 : Int32} {u7 : Value}  (hd : 1 ≤ d) (c1 : ¬ x6 < (gF w 1)) : Ev d 17 (20, [.ref 12, .ref 2, .int x2, .int x3, .int x4, .int x5, .int x6, u7], [], hp E w) (.inl (some (.int x5)), hp E w) := by
  refine Ev.run (c' := (23, [.ref 12, .ref 2, .int x2, .int x3, .int x4, .int x5, .int x6, u7], [.ref 2, .int x6], hp E w)) hM_17 2 rfl ?_
  refine Ev.callR hd hM_17 rfl (y := 39) (as := [.ref 2]) (rest := [.int x6]) rfl (Nat.le_of_ble_eq_true rfl) (Ev.run (c' := (4, [.ref 2], [.int (gF w 1)], hp E w)) hM_39 2 rfl (Ev.fin hM_39 rfl rfl)) ?_
  refine Ev.run (c' := (26, [.ref 12, .ref 2, .int x2, .int x3, .int x4, .int x5, .int x6, u7], [.int (gF w 1), .int x6], hp E w)) hM_17 0 rfl ?_
  refine Ev.icT hM_17 rfl (cI_geT c1) ?_
  refine Ev.run (c' := (75, [.ref 12, .ref 2, .int x2, .int x3, .int x4, .int x5, .int x6, u7], [.int x5], hp E w)) hM_17 1 rfl ?_
  exact Ev.fin hM_17 rfl rfl
theorem hM_18 : mAt 18 = some km_X1_bestCopMove := rfl
theorem p18_e_a {E : Nat × (Nat → Int32)} {w : Wd} {d : Nat} {x2 x3 x4 : Int32} {w1 : Wd} {v1 : Int32} (hd : 1 ≤ d) (h1 : Ev (d - 1) 16 (ent0 16 [.ref 12, .int x2, .int x3, .int x4] (hp E w)) (.inl (some (.int v1)), hp E w1)) (c1 : ¬ 0 < v1) : Ev d 18 (ent0 18 [.ref 12, .ref 2, .int x2, .int x3, .int x4] (hp E w)) (.inl (some (.int (-1 : Int32))), hp E w1) := by
  refine Ev.run (c' := (8, [.ref 12, .ref 2, .int x2, .int x3, .int x4, .int (-1 : Int32), jk, jk, jk, jk, jk], [.int x4, .int x3, .int x2, .ref 12], hp E w)) hM_18 6 rfl ?_
  refine Ev.callR hd hM_18 rfl (y := 16) (as := [.ref 12, .int x2, .int x3, .int x4]) (rest := []) rfl (Nat.le_of_ble_eq_true rfl) h1 ?_
  refine Ev.run (c' := (15, [.ref 12, .ref 2, .int x2, .int x3, .int x4, .int (-1 : Int32), .int v1, jk, jk, jk, jk], [.int v1], hp E w1)) hM_18 2 rfl ?_
  refine Ev.ifF hM_18 rfl (cI_gtF c1) ?_
  refine Ev.run (c' := (19, [.ref 12, .ref 2, .int x2, .int x3, .int x4, .int (-1 : Int32), .int v1, jk, jk, jk, jk], [.int (-1 : Int32)], hp E w1)) hM_18 1 rfl ?_
  exact Ev.fin hM_18 rfl rfl
theorem p18_e_b {E : Nat × (Nat → Int32)} {w : Wd} {d : Nat} {x2 x3 x4 : Int32} {o : Ou} {w1 : Wd} {v1 : Int32} (hd : 1 ≤ d) (h1 : Ev (d - 1) 16 (ent0 16 [.ref 12, .int x2, .int x3, .int x4] (hp E w)) (.inl (some (.int v1)), hp E w1)) (c1 : 0 < v1) (e : Ev d 18 (23, [.ref 12, .ref 2, .int x2, .int x3, .int x4, .int (-1 : Int32), .int v1, .int (0 : Int32), jk, jk, jk], [], hp E w1) o) : Ev d 18 (ent0 18 [.ref 12, .ref 2, .int x2, .int x3, .int x4] (hp E w)) o := by
  refine Ev.run (c' := (8, [.ref 12, .ref 2, .int x2, .int x3, .int x4, .int (-1 : Int32), jk, jk, jk, jk, jk], [.int x4, .int x3, .int x2, .ref 12], hp E w)) hM_18 6 rfl ?_
  refine Ev.callR hd hM_18 rfl (y := 16) (as := [.ref 12, .int x2, .int x3, .int x4]) (rest := []) rfl (Nat.le_of_ble_eq_true rfl) h1 ?_
  refine Ev.run (c' := (15, [.ref 12, .ref 2, .int x2, .int x3, .int x4, .int (-1 : Int32), .int v1, jk, jk, jk, jk], [.int v1], hp E w1)) hM_18 2 rfl ?_
  refine Ev.ifT hM_18 rfl (cI_gtT c1) ?_
  refine Ev.run (c' := (23, [.ref 12, .ref 2, .int x2, .int x3, .int x4, .int (-1 : Int32), .int v1, .int (0 : Int32), jk, jk, jk], [], hp E w1)) hM_18 2 rfl ?_
  exact e
theorem p18_23_a {E : Nat × (Nat → Int32)} {w : Wd} {d : Nat} {x2 x3 x4 x5 x6 x7 : Int32} {u8 u9 u10 : Value} {o : Ou}  (hd : 1 ≤ d) (c1 : x7 < (gF w 1)) (e : Ev d 18 (35, [.ref 12, .ref 2, .int x2, .int x3, .int x4, .int x5, .int x6, .int x7, .int (0 : Int32), u9, u10], [], hp E w) o) : Ev d 18 (23, [.ref 12, .ref 2, .int x2, .int x3, .int x4, .int x5, .int x6, .int x7, u8, u9, u10], [], hp E w) o := by
  refine Ev.run (c' := (26, [.ref 12, .ref 2, .int x2, .int x3, .int x4, .int x5, .int x6, .int x7, u8, u9, u10], [.ref 2, .int x7], hp E w)) hM_18 2 rfl ?_
  refine Ev.callR hd hM_18 rfl (y := 39) (as := [.ref 2]) (rest := [.int x7]) rfl (Nat.le_of_ble_eq_true rfl) (Ev.run (c' := (4, [.ref 2], [.int (gF w 1)], hp E w)) hM_39 2 rfl (Ev.fin hM_39 rfl rfl)) ?_
  refine Ev.run (c' := (29, [.ref 12, .ref 2, .int x2, .int x3, .int x4, .int x5, .int x6, .int x7, u8, u9, u10], [.int (gF w 1), .int x7], hp E w)) hM_18 0 rfl ?_
  refine Ev.icF hM_18 rfl (cI_geF c1) ?_
  refine Ev.run (c' := (35, [.ref 12, .ref 2, .int x2, .int x3, .int x4, .int x5, .int x6, .int x7, .int (0 : Int32), u9, u10], [], hp E w)) hM_18 2 rfl ?_
  exact e
theorem p18_23_b {E : Nat × (Nat → Int32)} {w : Wd} {d : Nat} {x2 x3 x4 x5 x6 x7 : Int32} {u8 u9 u10 : Value}  (hd : 1 ≤ d) (c1 : ¬ x7 < (gF w 1)) : Ev d 18 (23, [.ref 12, .ref 2, .int x2, .int x3, .int x4, .int x5, .int x6, .int x7, u8, u9, u10], [], hp E w) (.inl (some (.int x5)), hp E w) := by
  refine Ev.run (c' := (26, [.ref 12, .ref 2, .int x2, .int x3, .int x4, .int x5, .int x6, .int x7, u8, u9, u10], [.ref 2, .int x7], hp E w)) hM_18 2 rfl ?_
  refine Ev.callR hd hM_18 rfl (y := 39) (as := [.ref 2]) (rest := [.int x7]) rfl (Nat.le_of_ble_eq_true rfl) (Ev.run (c' := (4, [.ref 2], [.int (gF w 1)], hp E w)) hM_39 2 rfl (Ev.fin hM_39 rfl rfl)) ?_
  refine Ev.run (c' := (29, [.ref 12, .ref 2, .int x2, .int x3, .int x4, .int x5, .int x6, .int x7, u8, u9, u10], [.int (gF w 1), .int x7], hp E w)) hM_18 0 rfl ?_
  refine Ev.icT hM_18 rfl (cI_geT c1) ?_
  refine Ev.run (c' := (133, [.ref 12, .ref 2, .int x2, .int x3, .int x4, .int x5, .int x6, .int x7, u8, u9, u10], [.int x5], hp E w)) hM_18 1 rfl ?_
  exact Ev.fin hM_18 rfl rfl
theorem p18_35_a {E : Nat × (Nat → Int32)} {w : Wd} {d : Nat} {x2 x3 x4 x5 x6 x7 x8 : Int32} {u9 u10 : Value} {o : Ou} {w1 : Wd} {v1 : Int32} {w2 : Wd} {v2 : Int32} {w3 : Wd} {v3 : Int32} {w4 : Wd} {v4 : Int32} {y8 : Int32} (hd : 1 ≤ d) (c1 : x8 < (10 : Int32)) (h1 : Ev (d - 1) 48 (ent0 48 [.ref 2, .int x2, .int x7] (hp E w)) (.inl (some (.int v1)), hp E w1)) (c2 : ¬ v1 = 0) (h2 : Ev (d - 1) 48 (ent0 48 [.ref 2, .int x3, .int x8] (hp E w1)) (.inl (some (.int v2)), hp E w2)) (c3 : ¬ v2 = 0) (h3 : Ev (d - 1) 17 (ent0 17 [.ref 12, .ref 2, .int x7, .int x8, .int x4] (hp E w2)) (.inl (some (.int v3)), hp E w3)) (h4 : Ev (d - 1) 19 (ent0 19 [.int x7, .int x8] (hp E w3)) (.inl (some (.int v4)), hp E w4)) (c4 : ¬ v3 = (-1 : Int32)) (c5 : ¬ v3 < x6) (c6 : v3 = x6) (c7 : v4 < x5) (q8 : (x8 + (1 : Int32)) = y8) (e : Ev d 18 (35, [.ref 12, .ref 2, .int x2, .int x3, .int x4, .int v4, .int v3, .int x7, .int y8, .int v3, .int v4], [], hp E w4) o) : Ev d 18 (35, [.ref 12, .ref 2, .int x2, .int x3, .int x4, .int x5, .int x6, .int x7, .int x8, u9, u10], [], hp E w) o := by
  subst q8
  refine Ev.run (c' := (39, [.ref 12, .ref 2, .int x2, .int x3, .int x4, .int x5, .int x6, .int x7, .int x8, u9, u10], [.int (10 : Int32), .int x8], hp E w)) hM_18 2 rfl ?_
  refine Ev.icF hM_18 rfl (cI_geF c1) ?_
  refine Ev.run (c' := (46, [.ref 12, .ref 2, .int x2, .int x3, .int x4, .int x5, .int x6, .int x7, .int x8, u9, u10], [.int x7, .int x2, .ref 2], hp E w)) hM_18 3 rfl ?_
  refine Ev.callR hd hM_18 rfl (y := 48) (as := [.ref 2, .int x2, .int x7]) (rest := []) rfl (Nat.le_of_ble_eq_true rfl) h1 ?_
  refine Ev.run (c' := (49, [.ref 12, .ref 2, .int x2, .int x3, .int x4, .int x5, .int x6, .int x7, .int x8, u9, u10], [.int v1], hp E w1)) hM_18 0 rfl ?_
  refine Ev.ifF hM_18 rfl (cI_eqF c2) ?_
  refine Ev.run (c' := (56, [.ref 12, .ref 2, .int x2, .int x3, .int x4, .int x5, .int x6, .int x7, .int x8, u9, u10], [.int x8, .int x3, .ref 2], hp E w1)) hM_18 3 rfl ?_
  refine Ev.callR hd hM_18 rfl (y := 48) (as := [.ref 2, .int x3, .int x8]) (rest := []) rfl (Nat.le_of_ble_eq_true rfl) h2 ?_
  refine Ev.run (c' := (59, [.ref 12, .ref 2, .int x2, .int x3, .int x4, .int x5, .int x6, .int x7, .int x8, u9, u10], [.int v2], hp E w2)) hM_18 0 rfl ?_
  refine Ev.ifF hM_18 rfl (cI_eqF c3) ?_
  refine Ev.run (c' := (70, [.ref 12, .ref 2, .int x2, .int x3, .int x4, .int x5, .int x6, .int x7, .int x8, u9, u10], [.int x4, .int x8, .int x7, .ref 2, .ref 12], hp E w2)) hM_18 5 rfl ?_
  refine Ev.callR hd hM_18 rfl (y := 17) (as := [.ref 12, .ref 2, .int x7, .int x8, .int x4]) (rest := []) rfl (Nat.le_of_ble_eq_true rfl) h3 ?_
  refine Ev.run (c' := (79, [.ref 12, .ref 2, .int x2, .int x3, .int x4, .int x5, .int x6, .int x7, .int x8, .int v3, u10], [.int x8, .int x7], hp E w3)) hM_18 3 rfl ?_
  refine Ev.callR hd hM_18 rfl (y := 19) (as := [.int x7, .int x8]) (rest := []) rfl (Nat.le_of_ble_eq_true rfl) h4 ?_
  refine Ev.run (c' := (87, [.ref 12, .ref 2, .int x2, .int x3, .int x4, .int x5, .int x6, .int x7, .int x8, .int v3, .int v4], [.int (-1 : Int32), .int v3], hp E w4)) hM_18 3 rfl ?_
  refine Ev.icF hM_18 rfl (cI_eqF c4) ?_
  refine Ev.run (c' := (94, [.ref 12, .ref 2, .int x2, .int x3, .int x4, .int x5, .int x6, .int x7, .int x8, .int v3, .int v4], [.int x6, .int v3], hp E w4)) hM_18 2 rfl ?_
  refine Ev.icF hM_18 rfl (cI_ltF c5) ?_
  refine Ev.run (c' := (101, [.ref 12, .ref 2, .int x2, .int x3, .int x4, .int x5, .int x6, .int x7, .int x8, .int v3, .int v4], [.int x6, .int v3], hp E w4)) hM_18 2 rfl ?_
  refine Ev.icF hM_18 rfl (cI_neF c6) ?_
  refine Ev.run (c' := (108, [.ref 12, .ref 2, .int x2, .int x3, .int x4, .int x5, .int x6, .int x7, .int x8, .int v3, .int v4], [.int x5, .int v4], hp E w4)) hM_18 2 rfl ?_
  refine Ev.icF hM_18 rfl (cI_geF c7) ?_
  refine Ev.run (c' := (35, [.ref 12, .ref 2, .int x2, .int x3, .int x4, .int v4, .int v3, .int x7, .int (x8 + (1 : Int32)), .int v3, .int v4], [], hp E w4)) hM_18 6 rfl ?_
  exact e
theorem p18_35_b {E : Nat × (Nat → Int32)} {w : Wd} {d : Nat} {x2 x3 x4 x5 x6 x7 x8 : Int32} {u9 u10 : Value} {o : Ou} {w1 : Wd} {v1 : Int32} {w2 : Wd} {v2 : Int32} {w3 : Wd} {v3 : Int32} {w4 : Wd} {v4 : Int32} {y8 : Int32} (hd : 1 ≤ d) (c1 : x8 < (10 : Int32)) (h1 : Ev (d - 1) 48 (ent0 48 [.ref 2, .int x2, .int x7] (hp E w)) (.inl (some (.int v1)), hp E w1)) (c2 : ¬ v1 = 0) (h2 : Ev (d - 1) 48 (ent0 48 [.ref 2, .int x3, .int x8] (hp E w1)) (.inl (some (.int v2)), hp E w2)) (c3 : ¬ v2 = 0) (h3 : Ev (d - 1) 17 (ent0 17 [.ref 12, .ref 2, .int x7, .int x8, .int x4] (hp E w2)) (.inl (some (.int v3)), hp E w3)) (h4 : Ev (d - 1) 19 (ent0 19 [.int x7, .int x8] (hp E w3)) (.inl (some (.int v4)), hp E w4)) (c4 : ¬ v3 = (-1 : Int32)) (c5 : ¬ v3 < x6) (c6 : v3 = x6) (c7 : ¬ v4 < x5) (q8 : (x8 + (1 : Int32)) = y8) (e : Ev d 18 (35, [.ref 12, .ref 2, .int x2, .int x3, .int x4, .int x5, .int x6, .int x7, .int y8, .int v3, .int v4], [], hp E w4) o) : Ev d 18 (35, [.ref 12, .ref 2, .int x2, .int x3, .int x4, .int x5, .int x6, .int x7, .int x8, u9, u10], [], hp E w) o := by
  subst q8
  refine Ev.run (c' := (39, [.ref 12, .ref 2, .int x2, .int x3, .int x4, .int x5, .int x6, .int x7, .int x8, u9, u10], [.int (10 : Int32), .int x8], hp E w)) hM_18 2 rfl ?_
  refine Ev.icF hM_18 rfl (cI_geF c1) ?_
  refine Ev.run (c' := (46, [.ref 12, .ref 2, .int x2, .int x3, .int x4, .int x5, .int x6, .int x7, .int x8, u9, u10], [.int x7, .int x2, .ref 2], hp E w)) hM_18 3 rfl ?_
  refine Ev.callR hd hM_18 rfl (y := 48) (as := [.ref 2, .int x2, .int x7]) (rest := []) rfl (Nat.le_of_ble_eq_true rfl) h1 ?_
  refine Ev.run (c' := (49, [.ref 12, .ref 2, .int x2, .int x3, .int x4, .int x5, .int x6, .int x7, .int x8, u9, u10], [.int v1], hp E w1)) hM_18 0 rfl ?_
  refine Ev.ifF hM_18 rfl (cI_eqF c2) ?_
  refine Ev.run (c' := (56, [.ref 12, .ref 2, .int x2, .int x3, .int x4, .int x5, .int x6, .int x7, .int x8, u9, u10], [.int x8, .int x3, .ref 2], hp E w1)) hM_18 3 rfl ?_
  refine Ev.callR hd hM_18 rfl (y := 48) (as := [.ref 2, .int x3, .int x8]) (rest := []) rfl (Nat.le_of_ble_eq_true rfl) h2 ?_
  refine Ev.run (c' := (59, [.ref 12, .ref 2, .int x2, .int x3, .int x4, .int x5, .int x6, .int x7, .int x8, u9, u10], [.int v2], hp E w2)) hM_18 0 rfl ?_
  refine Ev.ifF hM_18 rfl (cI_eqF c3) ?_
  refine Ev.run (c' := (70, [.ref 12, .ref 2, .int x2, .int x3, .int x4, .int x5, .int x6, .int x7, .int x8, u9, u10], [.int x4, .int x8, .int x7, .ref 2, .ref 12], hp E w2)) hM_18 5 rfl ?_
  refine Ev.callR hd hM_18 rfl (y := 17) (as := [.ref 12, .ref 2, .int x7, .int x8, .int x4]) (rest := []) rfl (Nat.le_of_ble_eq_true rfl) h3 ?_
  refine Ev.run (c' := (79, [.ref 12, .ref 2, .int x2, .int x3, .int x4, .int x5, .int x6, .int x7, .int x8, .int v3, u10], [.int x8, .int x7], hp E w3)) hM_18 3 rfl ?_
  refine Ev.callR hd hM_18 rfl (y := 19) (as := [.int x7, .int x8]) (rest := []) rfl (Nat.le_of_ble_eq_true rfl) h4 ?_
  refine Ev.run (c' := (87, [.ref 12, .ref 2, .int x2, .int x3, .int x4, .int x5, .int x6, .int x7, .int x8, .int v3, .int v4], [.int (-1 : Int32), .int v3], hp E w4)) hM_18 3 rfl ?_
  refine Ev.icF hM_18 rfl (cI_eqF c4) ?_
  refine Ev.run (c' := (94, [.ref 12, .ref 2, .int x2, .int x3, .int x4, .int x5, .int x6, .int x7, .int x8, .int v3, .int v4], [.int x6, .int v3], hp E w4)) hM_18 2 rfl ?_
  refine Ev.icF hM_18 rfl (cI_ltF c5) ?_
  refine Ev.run (c' := (101, [.ref 12, .ref 2, .int x2, .int x3, .int x4, .int x5, .int x6, .int x7, .int x8, .int v3, .int v4], [.int x6, .int v3], hp E w4)) hM_18 2 rfl ?_
  refine Ev.icF hM_18 rfl (cI_neF c6) ?_
  refine Ev.run (c' := (108, [.ref 12, .ref 2, .int x2, .int x3, .int x4, .int x5, .int x6, .int x7, .int x8, .int v3, .int v4], [.int x5, .int v4], hp E w4)) hM_18 2 rfl ?_
  refine Ev.icT hM_18 rfl (cI_geT c7) ?_
  refine Ev.run (c' := (35, [.ref 12, .ref 2, .int x2, .int x3, .int x4, .int x5, .int x6, .int x7, .int (x8 + (1 : Int32)), .int v3, .int v4], [], hp E w4)) hM_18 2 rfl ?_
  exact e
theorem p18_35_c {E : Nat × (Nat → Int32)} {w : Wd} {d : Nat} {x2 x3 x4 x5 x6 x7 x8 : Int32} {u9 u10 : Value} {o : Ou} {w1 : Wd} {v1 : Int32} {w2 : Wd} {v2 : Int32} {w3 : Wd} {v3 : Int32} {w4 : Wd} {v4 : Int32} {y8 : Int32} (hd : 1 ≤ d) (c1 : x8 < (10 : Int32)) (h1 : Ev (d - 1) 48 (ent0 48 [.ref 2, .int x2, .int x7] (hp E w)) (.inl (some (.int v1)), hp E w1)) (c2 : ¬ v1 = 0) (h2 : Ev (d - 1) 48 (ent0 48 [.ref 2, .int x3, .int x8] (hp E w1)) (.inl (some (.int v2)), hp E w2)) (c3 : ¬ v2 = 0) (h3 : Ev (d - 1) 17 (ent0 17 [.ref 12, .ref 2, .int x7, .int x8, .int x4] (hp E w2)) (.inl (some (.int v3)), hp E w3)) (h4 : Ev (d - 1) 19 (ent0 19 [.int x7, .int x8] (hp E w3)) (.inl (some (.int v4)), hp E w4)) (c4 : ¬ v3 = (-1 : Int32)) (c5 : ¬ v3 < x6) (c6 : ¬ v3 = x6) (q8 : (x8 + (1 : Int32)) = y8) (e : Ev d 18 (35, [.ref 12, .ref 2, .int x2, .int x3, .int x4, .int x5, .int x6, .int x7, .int y8, .int v3, .int v4], [], hp E w4) o) : Ev d 18 (35, [.ref 12, .ref 2, .int x2, .int x3, .int x4, .int x5, .int x6, .int x7, .int x8, u9, u10], [], hp E w) o := by
  subst q8
  refine Ev.run (c' := (39, [.ref 12, .ref 2, .int x2, .int x3, .int x4, .int x5, .int x6, .int x7, .int x8, u9, u10], [.int (10 : Int32), .int x8], hp E w)) hM_18 2 rfl ?_
  refine Ev.icF hM_18 rfl (cI_geF c1) ?_
  refine Ev.run (c' := (46, [.ref 12, .ref 2, .int x2, .int x3, .int x4, .int x5, .int x6, .int x7, .int x8, u9, u10], [.int x7, .int x2, .ref 2], hp E w)) hM_18 3 rfl ?_
  refine Ev.callR hd hM_18 rfl (y := 48) (as := [.ref 2, .int x2, .int x7]) (rest := []) rfl (Nat.le_of_ble_eq_true rfl) h1 ?_
  refine Ev.run (c' := (49, [.ref 12, .ref 2, .int x2, .int x3, .int x4, .int x5, .int x6, .int x7, .int x8, u9, u10], [.int v1], hp E w1)) hM_18 0 rfl ?_
  refine Ev.ifF hM_18 rfl (cI_eqF c2) ?_
  refine Ev.run (c' := (56, [.ref 12, .ref 2, .int x2, .int x3, .int x4, .int x5, .int x6, .int x7, .int x8, u9, u10], [.int x8, .int x3, .ref 2], hp E w1)) hM_18 3 rfl ?_
  refine Ev.callR hd hM_18 rfl (y := 48) (as := [.ref 2, .int x3, .int x8]) (rest := []) rfl (Nat.le_of_ble_eq_true rfl) h2 ?_
  refine Ev.run (c' := (59, [.ref 12, .ref 2, .int x2, .int x3, .int x4, .int x5, .int x6, .int x7, .int x8, u9, u10], [.int v2], hp E w2)) hM_18 0 rfl ?_
  refine Ev.ifF hM_18 rfl (cI_eqF c3) ?_
  refine Ev.run (c' := (70, [.ref 12, .ref 2, .int x2, .int x3, .int x4, .int x5, .int x6, .int x7, .int x8, u9, u10], [.int x4, .int x8, .int x7, .ref 2, .ref 12], hp E w2)) hM_18 5 rfl ?_
  refine Ev.callR hd hM_18 rfl (y := 17) (as := [.ref 12, .ref 2, .int x7, .int x8, .int x4]) (rest := []) rfl (Nat.le_of_ble_eq_true rfl) h3 ?_
  refine Ev.run (c' := (79, [.ref 12, .ref 2, .int x2, .int x3, .int x4, .int x5, .int x6, .int x7, .int x8, .int v3, u10], [.int x8, .int x7], hp E w3)) hM_18 3 rfl ?_
  refine Ev.callR hd hM_18 rfl (y := 19) (as := [.int x7, .int x8]) (rest := []) rfl (Nat.le_of_ble_eq_true rfl) h4 ?_
  refine Ev.run (c' := (87, [.ref 12, .ref 2, .int x2, .int x3, .int x4, .int x5, .int x6, .int x7, .int x8, .int v3, .int v4], [.int (-1 : Int32), .int v3], hp E w4)) hM_18 3 rfl ?_
  refine Ev.icF hM_18 rfl (cI_eqF c4) ?_
  refine Ev.run (c' := (94, [.ref 12, .ref 2, .int x2, .int x3, .int x4, .int x5, .int x6, .int x7, .int x8, .int v3, .int v4], [.int x6, .int v3], hp E w4)) hM_18 2 rfl ?_
  refine Ev.icF hM_18 rfl (cI_ltF c5) ?_
  refine Ev.run (c' := (101, [.ref 12, .ref 2, .int x2, .int x3, .int x4, .int x5, .int x6, .int x7, .int x8, .int v3, .int v4], [.int x6, .int v3], hp E w4)) hM_18 2 rfl ?_
  refine Ev.icT hM_18 rfl (cI_neT c6) ?_
  refine Ev.run (c' := (35, [.ref 12, .ref 2, .int x2, .int x3, .int x4, .int x5, .int x6, .int x7, .int (x8 + (1 : Int32)), .int v3, .int v4], [], hp E w4)) hM_18 2 rfl ?_
  exact e
theorem p18_35_d {E : Nat × (Nat → Int32)} {w : Wd} {d : Nat} {x2 x3 x4 x5 x6 x7 x8 : Int32} {u9 u10 : Value} {o : Ou} {w1 : Wd} {v1 : Int32} {w2 : Wd} {v2 : Int32} {w3 : Wd} {v3 : Int32} {w4 : Wd} {v4 : Int32} {y8 : Int32} (hd : 1 ≤ d) (c1 : x8 < (10 : Int32)) (h1 : Ev (d - 1) 48 (ent0 48 [.ref 2, .int x2, .int x7] (hp E w)) (.inl (some (.int v1)), hp E w1)) (c2 : ¬ v1 = 0) (h2 : Ev (d - 1) 48 (ent0 48 [.ref 2, .int x3, .int x8] (hp E w1)) (.inl (some (.int v2)), hp E w2)) (c3 : ¬ v2 = 0) (h3 : Ev (d - 1) 17 (ent0 17 [.ref 12, .ref 2, .int x7, .int x8, .int x4] (hp E w2)) (.inl (some (.int v3)), hp E w3)) (h4 : Ev (d - 1) 19 (ent0 19 [.int x7, .int x8] (hp E w3)) (.inl (some (.int v4)), hp E w4)) (c4 : ¬ v3 = (-1 : Int32)) (c5 : v3 < x6) (q8 : (x8 + (1 : Int32)) = y8) (e : Ev d 18 (35, [.ref 12, .ref 2, .int x2, .int x3, .int x4, .int v4, .int v3, .int x7, .int y8, .int v3, .int v4], [], hp E w4) o) : Ev d 18 (35, [.ref 12, .ref 2, .int x2, .int x3, .int x4, .int x5, .int x6, .int x7, .int x8, u9, u10], [], hp E w) o := by
  subst q8
  refine Ev.run (c' := (39, [.ref 12, .ref 2, .int x2, .int x3, .int x4, .int x5, .int x6, .int x7, .int x8, u9, u10], [.int (10 : Int32), .int x8], hp E w)) hM_18 2 rfl ?_
  refine Ev.icF hM_18 rfl (cI_geF c1) ?_
  refine Ev.run (c' := (46, [.ref 12, .ref 2, .int x2, .int x3, .int x4, .int x5, .int x6, .int x7, .int x8, u9, u10], [.int x7, .int x2, .ref 2], hp E w)) hM_18 3 rfl ?_
  refine Ev.callR hd hM_18 rfl (y := 48) (as := [.ref 2, .int x2, .int x7]) (rest := []) rfl (Nat.le_of_ble_eq_true rfl) h1 ?_
  refine Ev.run (c' := (49, [.ref 12, .ref 2, .int x2, .int x3, .int x4, .int x5, .int x6, .int x7, .int x8, u9, u10], [.int v1], hp E w1)) hM_18 0 rfl ?_
  refine Ev.ifF hM_18 rfl (cI_eqF c2) ?_
  refine Ev.run (c' := (56, [.ref 12, .ref 2, .int x2, .int x3, .int x4, .int x5, .int x6, .int x7, .int x8, u9, u10], [.int x8, .int x3, .ref 2], hp E w1)) hM_18 3 rfl ?_
  refine Ev.callR hd hM_18 rfl (y := 48) (as := [.ref 2, .int x3, .int x8]) (rest := []) rfl (Nat.le_of_ble_eq_true rfl) h2 ?_
  refine Ev.run (c' := (59, [.ref 12, .ref 2, .int x2, .int x3, .int x4, .int x5, .int x6, .int x7, .int x8, u9, u10], [.int v2], hp E w2)) hM_18 0 rfl ?_
  refine Ev.ifF hM_18 rfl (cI_eqF c3) ?_
  refine Ev.run (c' := (70, [.ref 12, .ref 2, .int x2, .int x3, .int x4, .int x5, .int x6, .int x7, .int x8, u9, u10], [.int x4, .int x8, .int x7, .ref 2, .ref 12], hp E w2)) hM_18 5 rfl ?_
  refine Ev.callR hd hM_18 rfl (y := 17) (as := [.ref 12, .ref 2, .int x7, .int x8, .int x4]) (rest := []) rfl (Nat.le_of_ble_eq_true rfl) h3 ?_
  refine Ev.run (c' := (79, [.ref 12, .ref 2, .int x2, .int x3, .int x4, .int x5, .int x6, .int x7, .int x8, .int v3, u10], [.int x8, .int x7], hp E w3)) hM_18 3 rfl ?_
  refine Ev.callR hd hM_18 rfl (y := 19) (as := [.int x7, .int x8]) (rest := []) rfl (Nat.le_of_ble_eq_true rfl) h4 ?_
  refine Ev.run (c' := (87, [.ref 12, .ref 2, .int x2, .int x3, .int x4, .int x5, .int x6, .int x7, .int x8, .int v3, .int v4], [.int (-1 : Int32), .int v3], hp E w4)) hM_18 3 rfl ?_
  refine Ev.icF hM_18 rfl (cI_eqF c4) ?_
  refine Ev.run (c' := (94, [.ref 12, .ref 2, .int x2, .int x3, .int x4, .int x5, .int x6, .int x7, .int x8, .int v3, .int v4], [.int x6, .int v3], hp E w4)) hM_18 2 rfl ?_
  refine Ev.icT hM_18 rfl (cI_ltT c5) ?_
  refine Ev.run (c' := (35, [.ref 12, .ref 2, .int x2, .int x3, .int x4, .int v4, .int v3, .int x7, .int (x8 + (1 : Int32)), .int v3, .int v4], [], hp E w4)) hM_18 6 rfl ?_
  exact e
theorem p18_35_e {E : Nat × (Nat → Int32)} {w : Wd} {d : Nat} {x2 x3 x4 x5 x6 x7 x8 : Int32} {u9 u10 : Value} {o : Ou} {w1 : Wd} {v1 : Int32} {w2 : Wd} {v2 : Int32} {w3 : Wd} {v3 : Int32} {w4 : Wd} {v4 : Int32} {y8 : Int32} (hd : 1 ≤ d) (c1 : x8 < (10 : Int32)) (h1 : Ev (d - 1) 48 (ent0 48 [.ref 2, .int x2, .int x7] (hp E w)) (.inl (some (.int v1)), hp E w1)) (c2 : ¬ v1 = 0) (h2 : Ev (d - 1) 48 (ent0 48 [.ref 2, .int x3, .int x8] (hp E w1)) (.inl (some (.int v2)), hp E w2)) (c3 : ¬ v2 = 0) (h3 : Ev (d - 1) 17 (ent0 17 [.ref 12, .ref 2, .int x7, .int x8, .int x4] (hp E w2)) (.inl (some (.int v3)), hp E w3)) (h4 : Ev (d - 1) 19 (ent0 19 [.int x7, .int x8] (hp E w3)) (.inl (some (.int v4)), hp E w4)) (c4 : v3 = (-1 : Int32)) (q8 : (x8 + (1 : Int32)) = y8) (e : Ev d 18 (35, [.ref 12, .ref 2, .int x2, .int x3, .int x4, .int x5, .int x6, .int x7, .int y8, .int v3, .int v4], [], hp E w4) o) : Ev d 18 (35, [.ref 12, .ref 2, .int x2, .int x3, .int x4, .int x5, .int x6, .int x7, .int x8, u9, u10], [], hp E w) o := by
  subst q8
  refine Ev.run (c' := (39, [.ref 12, .ref 2, .int x2, .int x3, .int x4, .int x5, .int x6, .int x7, .int x8, u9, u10], [.int (10 : Int32), .int x8], hp E w)) hM_18 2 rfl ?_
  refine Ev.icF hM_18 rfl (cI_geF c1) ?_
  refine Ev.run (c' := (46, [.ref 12, .ref 2, .int x2, .int x3, .int x4, .int x5, .int x6, .int x7, .int x8, u9, u10], [.int x7, .int x2, .ref 2], hp E w)) hM_18 3 rfl ?_
  refine Ev.callR hd hM_18 rfl (y := 48) (as := [.ref 2, .int x2, .int x7]) (rest := []) rfl (Nat.le_of_ble_eq_true rfl) h1 ?_
  refine Ev.run (c' := (49, [.ref 12, .ref 2, .int x2, .int x3, .int x4, .int x5, .int x6, .int x7, .int x8, u9, u10], [.int v1], hp E w1)) hM_18 0 rfl ?_
  refine Ev.ifF hM_18 rfl (cI_eqF c2) ?_
  refine Ev.run (c' := (56, [.ref 12, .ref 2, .int x2, .int x3, .int x4, .int x5, .int x6, .int x7, .int x8, u9, u10], [.int x8, .int x3, .ref 2], hp E w1)) hM_18 3 rfl ?_
  refine Ev.callR hd hM_18 rfl (y := 48) (as := [.ref 2, .int x3, .int x8]) (rest := []) rfl (Nat.le_of_ble_eq_true rfl) h2 ?_
  refine Ev.run (c' := (59, [.ref 12, .ref 2, .int x2, .int x3, .int x4, .int x5, .int x6, .int x7, .int x8, u9, u10], [.int v2], hp E w2)) hM_18 0 rfl ?_
  refine Ev.ifF hM_18 rfl (cI_eqF c3) ?_
  refine Ev.run (c' := (70, [.ref 12, .ref 2, .int x2, .int x3, .int x4, .int x5, .int x6, .int x7, .int x8, u9, u10], [.int x4, .int x8, .int x7, .ref 2, .ref 12], hp E w2)) hM_18 5 rfl ?_
  refine Ev.callR hd hM_18 rfl (y := 17) (as := [.ref 12, .ref 2, .int x7, .int x8, .int x4]) (rest := []) rfl (Nat.le_of_ble_eq_true rfl) h3 ?_
  refine Ev.run (c' := (79, [.ref 12, .ref 2, .int x2, .int x3, .int x4, .int x5, .int x6, .int x7, .int x8, .int v3, u10], [.int x8, .int x7], hp E w3)) hM_18 3 rfl ?_
  refine Ev.callR hd hM_18 rfl (y := 19) (as := [.int x7, .int x8]) (rest := []) rfl (Nat.le_of_ble_eq_true rfl) h4 ?_
  refine Ev.run (c' := (87, [.ref 12, .ref 2, .int x2, .int x3, .int x4, .int x5, .int x6, .int x7, .int x8, .int v3, .int v4], [.int (-1 : Int32), .int v3], hp E w4)) hM_18 3 rfl ?_
  refine Ev.icT hM_18 rfl (cI_eqT c4) ?_
  refine Ev.run (c' := (35, [.ref 12, .ref 2, .int x2, .int x3, .int x4, .int x5, .int x6, .int x7, .int (x8 + (1 : Int32)), .int v3, .int v4], [], hp E w4)) hM_18 2 rfl ?_
  exact e
theorem p18_35_f {E : Nat × (Nat → Int32)} {w : Wd} {d : Nat} {x2 x3 x4 x5 x6 x7 x8 : Int32} {u9 u10 : Value} {o : Ou} {w1 : Wd} {v1 : Int32} {w2 : Wd} {v2 : Int32} {y8 : Int32} (hd : 1 ≤ d) (c1 : x8 < (10 : Int32)) (h1 : Ev (d - 1) 48 (ent0 48 [.ref 2, .int x2, .int x7] (hp E w)) (.inl (some (.int v1)), hp E w1)) (c2 : ¬ v1 = 0) (h2 : Ev (d - 1) 48 (ent0 48 [.ref 2, .int x3, .int x8] (hp E w1)) (.inl (some (.int v2)), hp E w2)) (c3 : v2 = 0) (q8 : (x8 + (1 : Int32)) = y8) (e : Ev d 18 (35, [.ref 12, .ref 2, .int x2, .int x3, .int x4, .int x5, .int x6, .int x7, .int y8, u9, u10], [], hp E w2) o) : Ev d 18 (35, [.ref 12, .ref 2, .int x2, .int x3, .int x4, .int x5, .int x6, .int x7, .int x8, u9, u10], [], hp E w) o := by
  subst q8
  refine Ev.run (c' := (39, [.ref 12, .ref 2, .int x2, .int x3, .int x4, .int x5, .int x6, .int x7, .int x8, u9, u10], [.int (10 : Int32), .int x8], hp E w)) hM_18 2 rfl ?_
  refine Ev.icF hM_18 rfl (cI_geF c1) ?_
  refine Ev.run (c' := (46, [.ref 12, .ref 2, .int x2, .int x3, .int x4, .int x5, .int x6, .int x7, .int x8, u9, u10], [.int x7, .int x2, .ref 2], hp E w)) hM_18 3 rfl ?_
  refine Ev.callR hd hM_18 rfl (y := 48) (as := [.ref 2, .int x2, .int x7]) (rest := []) rfl (Nat.le_of_ble_eq_true rfl) h1 ?_
  refine Ev.run (c' := (49, [.ref 12, .ref 2, .int x2, .int x3, .int x4, .int x5, .int x6, .int x7, .int x8, u9, u10], [.int v1], hp E w1)) hM_18 0 rfl ?_
  refine Ev.ifF hM_18 rfl (cI_eqF c2) ?_
  refine Ev.run (c' := (56, [.ref 12, .ref 2, .int x2, .int x3, .int x4, .int x5, .int x6, .int x7, .int x8, u9, u10], [.int x8, .int x3, .ref 2], hp E w1)) hM_18 3 rfl ?_
  refine Ev.callR hd hM_18 rfl (y := 48) (as := [.ref 2, .int x3, .int x8]) (rest := []) rfl (Nat.le_of_ble_eq_true rfl) h2 ?_
  refine Ev.run (c' := (59, [.ref 12, .ref 2, .int x2, .int x3, .int x4, .int x5, .int x6, .int x7, .int x8, u9, u10], [.int v2], hp E w2)) hM_18 0 rfl ?_
  refine Ev.ifT hM_18 rfl (cI_eqT c3) ?_
  refine Ev.run (c' := (35, [.ref 12, .ref 2, .int x2, .int x3, .int x4, .int x5, .int x6, .int x7, .int (x8 + (1 : Int32)), u9, u10], [], hp E w2)) hM_18 2 rfl ?_
  exact e
theorem p18_35_g {E : Nat × (Nat → Int32)} {w : Wd} {d : Nat} {x2 x3 x4 x5 x6 x7 x8 : Int32} {u9 u10 : Value} {o : Ou} {w1 : Wd} {v1 : Int32} {y8 : Int32} (hd : 1 ≤ d) (c1 : x8 < (10 : Int32)) (h1 : Ev (d - 1) 48 (ent0 48 [.ref 2, .int x2, .int x7] (hp E w)) (.inl (some (.int v1)), hp E w1)) (c2 : v1 = 0) (q8 : (x8 + (1 : Int32)) = y8) (e : Ev d 18 (35, [.ref 12, .ref 2, .int x2, .int x3, .int x4, .int x5, .int x6, .int x7, .int y8, u9, u10], [], hp E w1) o) : Ev d 18 (35, [.ref 12, .ref 2, .int x2, .int x3, .int x4, .int x5, .int x6, .int x7, .int x8, u9, u10], [], hp E w) o := by
  subst q8
  refine Ev.run (c' := (39, [.ref 12, .ref 2, .int x2, .int x3, .int x4, .int x5, .int x6, .int x7, .int x8, u9, u10], [.int (10 : Int32), .int x8], hp E w)) hM_18 2 rfl ?_
  refine Ev.icF hM_18 rfl (cI_geF c1) ?_
  refine Ev.run (c' := (46, [.ref 12, .ref 2, .int x2, .int x3, .int x4, .int x5, .int x6, .int x7, .int x8, u9, u10], [.int x7, .int x2, .ref 2], hp E w)) hM_18 3 rfl ?_
  refine Ev.callR hd hM_18 rfl (y := 48) (as := [.ref 2, .int x2, .int x7]) (rest := []) rfl (Nat.le_of_ble_eq_true rfl) h1 ?_
  refine Ev.run (c' := (49, [.ref 12, .ref 2, .int x2, .int x3, .int x4, .int x5, .int x6, .int x7, .int x8, u9, u10], [.int v1], hp E w1)) hM_18 0 rfl ?_
  refine Ev.ifT hM_18 rfl (cI_eqT c2) ?_
  refine Ev.run (c' := (35, [.ref 12, .ref 2, .int x2, .int x3, .int x4, .int x5, .int x6, .int x7, .int (x8 + (1 : Int32)), u9, u10], [], hp E w1)) hM_18 2 rfl ?_
  exact e
theorem p18_35_h {E : Nat × (Nat → Int32)} {w : Wd} {d : Nat} {x2 x3 x4 x5 x6 x7 x8 : Int32} {u9 u10 : Value} {o : Ou} {y7 : Int32} (c1 : ¬ x8 < (10 : Int32)) (q7 : (x7 + (1 : Int32)) = y7) (e : Ev d 18 (23, [.ref 12, .ref 2, .int x2, .int x3, .int x4, .int x5, .int x6, .int y7, .int x8, u9, u10], [], hp E w) o) : Ev d 18 (35, [.ref 12, .ref 2, .int x2, .int x3, .int x4, .int x5, .int x6, .int x7, .int x8, u9, u10], [], hp E w) o := by
  subst q7
  refine Ev.run (c' := (39, [.ref 12, .ref 2, .int x2, .int x3, .int x4, .int x5, .int x6, .int x7, .int x8, u9, u10], [.int (10 : Int32), .int x8], hp E w)) hM_18 2 rfl ?_
  refine Ev.icT hM_18 rfl (cI_geT c1) ?_
  refine Ev.run (c' := (23, [.ref 12, .ref 2, .int x2, .int x3, .int x4, .int x5, .int x6, .int (x7 + (1 : Int32)), .int x8, u9, u10], [], hp E w)) hM_18 2 rfl ?_
  exact e
theorem hM_19 : mAt 19 = some km_X1_moveNumber := rfl
theorem p19_e_a {E : Nat × (Nat → Int32)} {w : Wd} {d : Nat} {x0 x1 : Int32}  (c1 : x1 = (9 : Int32)) : Ev d 19 (ent0 19 [.int x0, .int x1] (hp E w)) (.inl (some (.int x0)), hp E w) := by
  refine Ev.run (c' := (3, [.int x0, .int x1], [.int (9 : Int32), .int x1], hp E w)) hM_19 2 rfl ?_
  refine Ev.icF hM_19 rfl (cI_neF c1) ?_
  refine Ev.run (c' := (24, [.int x0, .int x1], [.int x0], hp E w)) hM_19 2 rfl ?_
  exact Ev.fin hM_19 rfl rfl
theorem p19_e_b {E : Nat × (Nat → Int32)} {w : Wd} {d : Nat} {x0 x1 : Int32} {y : Int32} (c1 : ¬ x1 = (9 : Int32)) (q : (((10 : Int32) * (if x1 < x0 then x1 else x0)) + (if x0 < x1 then x1 else x0)) = y) : Ev d 19 (ent0 19 [.int x0, .int x1] (hp E w)) (.inl (some (.int y)), hp E w) := by
  subst q
  refine Ev.run (c' := (3, [.int x0, .int x1], [.int (9 : Int32), .int x1], hp E w)) hM_19 2 rfl ?_
  refine Ev.icT hM_19 rfl (cI_neT c1) ?_
  refine Ev.run (c' := (24, [.int x0, .int x1], [.int (((10 : Int32) * (if x1 < x0 then x1 else x0)) + (if x0 < x1 then x1 else x0))], hp E w)) hM_19 9 rfl ?_
  exact Ev.fin hM_19 rfl rfl
theorem hM_20 : mAt 20 = some km_X1_bestFlight := rfl
theorem p20_e_a {E : Nat × (Nat → Int32)} {w : Wd} {d : Nat} {x2 x3 x4 : Int32}  (c1 : ¬ x4 = x2) (c2 : x4 = x3) : Ev d 20 (ent0 20 [.ref 12, .ref 2, .int x2, .int x3, .int x4] (hp E w)) (.inl (some (.int (-1 : Int32))), hp E w) := by
  refine Ev.run (c' := (9, [.ref 12, .ref 2, .int x2, .int x3, .int x4, .int (-1 : Int32), .int (-1 : Int32), jk, jk, jk], [.int x2, .int x4], hp E w)) hM_20 6 rfl ?_
  refine Ev.icF hM_20 rfl (cI_eqF c1) ?_
  refine Ev.run (c' := (15, [.ref 12, .ref 2, .int x2, .int x3, .int x4, .int (-1 : Int32), .int (-1 : Int32), jk, jk, jk], [.int x3, .int x4], hp E w)) hM_20 2 rfl ?_
  refine Ev.icF hM_20 rfl (cI_neF c2) ?_
  refine Ev.run (c' := (19, [.ref 12, .ref 2, .int x2, .int x3, .int x4, .int (-1 : Int32), .int (-1 : Int32), jk, jk, jk], [.int (-1 : Int32)], hp E w)) hM_20 1 rfl ?_
  exact Ev.fin hM_20 rfl rfl
theorem p20_e_b {E : Nat × (Nat → Int32)} {w : Wd} {d : Nat} {x2 x3 x4 : Int32} {o : Ou}  (c1 : ¬ x4 = x2) (c2 : ¬ x4 = x3) (e : Ev d 20 (23, [.ref 12, .ref 2, .int x2, .int x3, .int x4, .int (-1 : Int32), .int (-1 : Int32), .int (0 : Int32), jk, jk], [], hp E w) o) : Ev d 20 (ent0 20 [.ref 12, .ref 2, .int x2, .int x3, .int x4] (hp E w)) o := by
  refine Ev.run (c' := (9, [.ref 12, .ref 2, .int x2, .int x3, .int x4, .int (-1 : Int32), .int (-1 : Int32), jk, jk, jk], [.int x2, .int x4], hp E w)) hM_20 6 rfl ?_
  refine Ev.icF hM_20 rfl (cI_eqF c1) ?_
  refine Ev.run (c' := (15, [.ref 12, .ref 2, .int x2, .int x3, .int x4, .int (-1 : Int32), .int (-1 : Int32), jk, jk, jk], [.int x3, .int x4], hp E w)) hM_20 2 rfl ?_
  refine Ev.icT hM_20 rfl (cI_neT c2) ?_
  refine Ev.run (c' := (23, [.ref 12, .ref 2, .int x2, .int x3, .int x4, .int (-1 : Int32), .int (-1 : Int32), .int (0 : Int32), jk, jk], [], hp E w)) hM_20 2 rfl ?_
  exact e
theorem p20_e_c {E : Nat × (Nat → Int32)} {w : Wd} {d : Nat} {x2 x3 x4 : Int32}  (c1 : x4 = x2) : Ev d 20 (ent0 20 [.ref 12, .ref 2, .int x2, .int x3, .int x4] (hp E w)) (.inl (some (.int (-1 : Int32))), hp E w) := by
  refine Ev.run (c' := (9, [.ref 12, .ref 2, .int x2, .int x3, .int x4, .int (-1 : Int32), .int (-1 : Int32), jk, jk, jk], [.int x2, .int x4], hp E w)) hM_20 6 rfl ?_
  refine Ev.icT hM_20 rfl (cI_eqT c1) ?_
  refine Ev.run (c' := (19, [.ref 12, .ref 2, .int x2, .int x3, .int x4, .int (-1 : Int32), .int (-1 : Int32), jk, jk, jk], [.int (-1 : Int32)], hp E w)) hM_20 1 rfl ?_
  exact Ev.fin hM_20 rfl rfl
theorem p20_23_a {E : Nat × (Nat → Int32)} {w : Wd} {d : Nat} {x2 x3 x4 x5 x6 x7 : Int32} {u8 u9 : Value} {o : Ou} {w1 : Wd} {v1 : Int32} {w2 : Wd} {v2 : Int32} {y7 : Int32} (hd : 1 ≤ d) (c1 : x7 < (gF w 1)) (h1 : Ev (d - 1) 48 (ent0 48 [.ref 2, .int x4, .int x7] (hp E w)) (.inl (some (.int v1)), hp E w1)) (c2 : ¬ v1 = 0) (h2 : Ev (d - 1) 16 (ent0 16 [.ref 12, .int x2, .int x3, .int x7] (hp E w1)) (.inl (some (.int v2)), hp E w2)) (c3 : v2 = (-1 : Int32)) (c4 : x6 < (1073741824 : Int32)) (q7 : (x7 + (1 : Int32)) = y7) (e : Ev d 20 (23, [.ref 12, .ref 2, .int x2, .int x3, .int x4, .int x7, .int (1073741824 : Int32), .int y7, .int v2, .int (1073741824 : Int32)], [], hp E w2) o) : Ev d 20 (23, [.ref 12, .ref 2, .int x2, .int x3, .int x4, .int x5, .int x6, .int x7, u8, u9], [], hp E w) o := by
  subst q7
  refine Ev.run (c' := (26, [.ref 12, .ref 2, .int x2, .int x3, .int x4, .int x5, .int x6, .int x7, u8, u9], [.ref 2, .int x7], hp E w)) hM_20 2 rfl ?_
  refine Ev.callR hd hM_20 rfl (y := 39) (as := [.ref 2]) (rest := [.int x7]) rfl (Nat.le_of_ble_eq_true rfl) (Ev.run (c' := (4, [.ref 2], [.int (gF w 1)], hp E w)) hM_39 2 rfl (Ev.fin hM_39 rfl rfl)) ?_
  refine Ev.run (c' := (29, [.ref 12, .ref 2, .int x2, .int x3, .int x4, .int x5, .int x6, .int x7, u8, u9], [.int (gF w 1), .int x7], hp E w)) hM_20 0 rfl ?_
  refine Ev.icF hM_20 rfl (cI_geF c1) ?_
  refine Ev.run (c' := (37, [.ref 12, .ref 2, .int x2, .int x3, .int x4, .int x5, .int x6, .int x7, u8, u9], [.int x7, .int x4, .ref 2], hp E w)) hM_20 3 rfl ?_
  refine Ev.callR hd hM_20 rfl (y := 48) (as := [.ref 2, .int x4, .int x7]) (rest := []) rfl (Nat.le_of_ble_eq_true rfl) h1 ?_
  refine Ev.run (c' := (40, [.ref 12, .ref 2, .int x2, .int x3, .int x4, .int x5, .int x6, .int x7, u8, u9], [.int v1], hp E w1)) hM_20 0 rfl ?_
  refine Ev.ifF hM_20 rfl (cI_eqF c2) ?_
  refine Ev.run (c' := (48, [.ref 12, .ref 2, .int x2, .int x3, .int x4, .int x5, .int x6, .int x7, u8, u9], [.int x7, .int x3, .int x2, .ref 12], hp E w1)) hM_20 4 rfl ?_
  refine Ev.callR hd hM_20 rfl (y := 16) (as := [.ref 12, .int x2, .int x3, .int x7]) (rest := []) rfl (Nat.le_of_ble_eq_true rfl) h2 ?_
  refine Ev.run (c' := (56, [.ref 12, .ref 2, .int x2, .int x3, .int x4, .int x5, .int x6, .int x7, .int v2, u9], [.int (-1 : Int32), .int v2], hp E w2)) hM_20 3 rfl ?_
  refine Ev.icF hM_20 rfl (cI_neF c3) ?_
  refine Ev.run (c' := (72, [.ref 12, .ref 2, .int x2, .int x3, .int x4, .int x5, .int x6, .int x7, .int v2, .int (1073741824 : Int32)], [.int x6, .int (1073741824 : Int32)], hp E w2)) hM_20 5 rfl ?_
  refine Ev.icF hM_20 rfl (cI_leF c4) ?_
  refine Ev.run (c' := (23, [.ref 12, .ref 2, .int x2, .int x3, .int x4, .int x7, .int (1073741824 : Int32), .int (x7 + (1 : Int32)), .int v2, .int (1073741824 : Int32)], [], hp E w2)) hM_20 6 rfl ?_
  exact e
theorem p20_23_b {E : Nat × (Nat → Int32)} {w : Wd} {d : Nat} {x2 x3 x4 x5 x6 x7 : Int32} {u8 u9 : Value} {o : Ou} {w1 : Wd} {v1 : Int32} {w2 : Wd} {v2 : Int32} {y7 : Int32} (hd : 1 ≤ d) (c1 : x7 < (gF w 1)) (h1 : Ev (d - 1) 48 (ent0 48 [.ref 2, .int x4, .int x7] (hp E w)) (.inl (some (.int v1)), hp E w1)) (c2 : ¬ v1 = 0) (h2 : Ev (d - 1) 16 (ent0 16 [.ref 12, .int x2, .int x3, .int x7] (hp E w1)) (.inl (some (.int v2)), hp E w2)) (c3 : v2 = (-1 : Int32)) (c4 : ¬ x6 < (1073741824 : Int32)) (q7 : (x7 + (1 : Int32)) = y7) (e : Ev d 20 (23, [.ref 12, .ref 2, .int x2, .int x3, .int x4, .int x5, .int x6, .int y7, .int v2, .int (1073741824 : Int32)], [], hp E w2) o) : Ev d 20 (23, [.ref 12, .ref 2, .int x2, .int x3, .int x4, .int x5, .int x6, .int x7, u8, u9], [], hp E w) o := by
  subst q7
  refine Ev.run (c' := (26, [.ref 12, .ref 2, .int x2, .int x3, .int x4, .int x5, .int x6, .int x7, u8, u9], [.ref 2, .int x7], hp E w)) hM_20 2 rfl ?_
  refine Ev.callR hd hM_20 rfl (y := 39) (as := [.ref 2]) (rest := [.int x7]) rfl (Nat.le_of_ble_eq_true rfl) (Ev.run (c' := (4, [.ref 2], [.int (gF w 1)], hp E w)) hM_39 2 rfl (Ev.fin hM_39 rfl rfl)) ?_
  refine Ev.run (c' := (29, [.ref 12, .ref 2, .int x2, .int x3, .int x4, .int x5, .int x6, .int x7, u8, u9], [.int (gF w 1), .int x7], hp E w)) hM_20 0 rfl ?_
  refine Ev.icF hM_20 rfl (cI_geF c1) ?_
  refine Ev.run (c' := (37, [.ref 12, .ref 2, .int x2, .int x3, .int x4, .int x5, .int x6, .int x7, u8, u9], [.int x7, .int x4, .ref 2], hp E w)) hM_20 3 rfl ?_
  refine Ev.callR hd hM_20 rfl (y := 48) (as := [.ref 2, .int x4, .int x7]) (rest := []) rfl (Nat.le_of_ble_eq_true rfl) h1 ?_
  refine Ev.run (c' := (40, [.ref 12, .ref 2, .int x2, .int x3, .int x4, .int x5, .int x6, .int x7, u8, u9], [.int v1], hp E w1)) hM_20 0 rfl ?_
  refine Ev.ifF hM_20 rfl (cI_eqF c2) ?_
  refine Ev.run (c' := (48, [.ref 12, .ref 2, .int x2, .int x3, .int x4, .int x5, .int x6, .int x7, u8, u9], [.int x7, .int x3, .int x2, .ref 12], hp E w1)) hM_20 4 rfl ?_
  refine Ev.callR hd hM_20 rfl (y := 16) (as := [.ref 12, .int x2, .int x3, .int x7]) (rest := []) rfl (Nat.le_of_ble_eq_true rfl) h2 ?_
  refine Ev.run (c' := (56, [.ref 12, .ref 2, .int x2, .int x3, .int x4, .int x5, .int x6, .int x7, .int v2, u9], [.int (-1 : Int32), .int v2], hp E w2)) hM_20 3 rfl ?_
  refine Ev.icF hM_20 rfl (cI_neF c3) ?_
  refine Ev.run (c' := (72, [.ref 12, .ref 2, .int x2, .int x3, .int x4, .int x5, .int x6, .int x7, .int v2, .int (1073741824 : Int32)], [.int x6, .int (1073741824 : Int32)], hp E w2)) hM_20 5 rfl ?_
  refine Ev.icT hM_20 rfl (cI_leT c4) ?_
  refine Ev.run (c' := (23, [.ref 12, .ref 2, .int x2, .int x3, .int x4, .int x5, .int x6, .int (x7 + (1 : Int32)), .int v2, .int (1073741824 : Int32)], [], hp E w2)) hM_20 2 rfl ?_
  exact e
theorem p20_23_c {E : Nat × (Nat → Int32)} {w : Wd} {d : Nat} {x2 x3 x4 x5 x6 x7 : Int32} {u8 u9 : Value} {o : Ou} {w1 : Wd} {v1 : Int32} {w2 : Wd} {v2 : Int32} {y7 : Int32} (hd : 1 ≤ d) (c1 : x7 < (gF w 1)) (h1 : Ev (d - 1) 48 (ent0 48 [.ref 2, .int x4, .int x7] (hp E w)) (.inl (some (.int v1)), hp E w1)) (c2 : ¬ v1 = 0) (h2 : Ev (d - 1) 16 (ent0 16 [.ref 12, .int x2, .int x3, .int x7] (hp E w1)) (.inl (some (.int v2)), hp E w2)) (c3 : ¬ v2 = (-1 : Int32)) (c4 : x6 < v2) (q7 : (x7 + (1 : Int32)) = y7) (e : Ev d 20 (23, [.ref 12, .ref 2, .int x2, .int x3, .int x4, .int x7, .int v2, .int y7, .int v2, .int v2], [], hp E w2) o) : Ev d 20 (23, [.ref 12, .ref 2, .int x2, .int x3, .int x4, .int x5, .int x6, .int x7, u8, u9], [], hp E w) o := by
  subst q7
  refine Ev.run (c' := (26, [.ref 12, .ref 2, .int x2, .int x3, .int x4, .int x5, .int x6, .int x7, u8, u9], [.ref 2, .int x7], hp E w)) hM_20 2 rfl ?_
  refine Ev.callR hd hM_20 rfl (y := 39) (as := [.ref 2]) (rest := [.int x7]) rfl (Nat.le_of_ble_eq_true rfl) (Ev.run (c' := (4, [.ref 2], [.int (gF w 1)], hp E w)) hM_39 2 rfl (Ev.fin hM_39 rfl rfl)) ?_
  refine Ev.run (c' := (29, [.ref 12, .ref 2, .int x2, .int x3, .int x4, .int x5, .int x6, .int x7, u8, u9], [.int (gF w 1), .int x7], hp E w)) hM_20 0 rfl ?_
  refine Ev.icF hM_20 rfl (cI_geF c1) ?_
  refine Ev.run (c' := (37, [.ref 12, .ref 2, .int x2, .int x3, .int x4, .int x5, .int x6, .int x7, u8, u9], [.int x7, .int x4, .ref 2], hp E w)) hM_20 3 rfl ?_
  refine Ev.callR hd hM_20 rfl (y := 48) (as := [.ref 2, .int x4, .int x7]) (rest := []) rfl (Nat.le_of_ble_eq_true rfl) h1 ?_
  refine Ev.run (c' := (40, [.ref 12, .ref 2, .int x2, .int x3, .int x4, .int x5, .int x6, .int x7, u8, u9], [.int v1], hp E w1)) hM_20 0 rfl ?_
  refine Ev.ifF hM_20 rfl (cI_eqF c2) ?_
  refine Ev.run (c' := (48, [.ref 12, .ref 2, .int x2, .int x3, .int x4, .int x5, .int x6, .int x7, u8, u9], [.int x7, .int x3, .int x2, .ref 12], hp E w1)) hM_20 4 rfl ?_
  refine Ev.callR hd hM_20 rfl (y := 16) (as := [.ref 12, .int x2, .int x3, .int x7]) (rest := []) rfl (Nat.le_of_ble_eq_true rfl) h2 ?_
  refine Ev.run (c' := (56, [.ref 12, .ref 2, .int x2, .int x3, .int x4, .int x5, .int x6, .int x7, .int v2, u9], [.int (-1 : Int32), .int v2], hp E w2)) hM_20 3 rfl ?_
  refine Ev.icT hM_20 rfl (cI_neT c3) ?_
  refine Ev.run (c' := (72, [.ref 12, .ref 2, .int x2, .int x3, .int x4, .int x5, .int x6, .int x7, .int v2, .int v2], [.int x6, .int v2], hp E w2)) hM_20 4 rfl ?_
  refine Ev.icF hM_20 rfl (cI_leF c4) ?_
  refine Ev.run (c' := (23, [.ref 12, .ref 2, .int x2, .int x3, .int x4, .int x7, .int v2, .int (x7 + (1 : Int32)), .int v2, .int v2], [], hp E w2)) hM_20 6 rfl ?_
  exact e
theorem p20_23_d {E : Nat × (Nat → Int32)} {w : Wd} {d : Nat} {x2 x3 x4 x5 x6 x7 : Int32} {u8 u9 : Value} {o : Ou} {w1 : Wd} {v1 : Int32} {w2 : Wd} {v2 : Int32} {y7 : Int32} (hd : 1 ≤ d) (c1 : x7 < (gF w 1)) (h1 : Ev (d - 1) 48 (ent0 48 [.ref 2, .int x4, .int x7] (hp E w)) (.inl (some (.int v1)), hp E w1)) (c2 : ¬ v1 = 0) (h2 : Ev (d - 1) 16 (ent0 16 [.ref 12, .int x2, .int x3, .int x7] (hp E w1)) (.inl (some (.int v2)), hp E w2)) (c3 : ¬ v2 = (-1 : Int32)) (c4 : ¬ x6 < v2) (q7 : (x7 + (1 : Int32)) = y7) (e : Ev d 20 (23, [.ref 12, .ref 2, .int x2, .int x3, .int x4, .int x5, .int x6, .int y7, .int v2, .int v2], [], hp E w2) o) : Ev d 20 (23, [.ref 12, .ref 2, .int x2, .int x3, .int x4, .int x5, .int x6, .int x7, u8, u9], [], hp E w) o := by
  subst q7
  refine Ev.run (c' := (26, [.ref 12, .ref 2, .int x2, .int x3, .int x4, .int x5, .int x6, .int x7, u8, u9], [.ref 2, .int x7], hp E w)) hM_20 2 rfl ?_
  refine Ev.callR hd hM_20 rfl (y := 39) (as := [.ref 2]) (rest := [.int x7]) rfl (Nat.le_of_ble_eq_true rfl) (Ev.run (c' := (4, [.ref 2], [.int (gF w 1)], hp E w)) hM_39 2 rfl (Ev.fin hM_39 rfl rfl)) ?_
  refine Ev.run (c' := (29, [.ref 12, .ref 2, .int x2, .int x3, .int x4, .int x5, .int x6, .int x7, u8, u9], [.int (gF w 1), .int x7], hp E w)) hM_20 0 rfl ?_
  refine Ev.icF hM_20 rfl (cI_geF c1) ?_
  refine Ev.run (c' := (37, [.ref 12, .ref 2, .int x2, .int x3, .int x4, .int x5, .int x6, .int x7, u8, u9], [.int x7, .int x4, .ref 2], hp E w)) hM_20 3 rfl ?_
  refine Ev.callR hd hM_20 rfl (y := 48) (as := [.ref 2, .int x4, .int x7]) (rest := []) rfl (Nat.le_of_ble_eq_true rfl) h1 ?_
  refine Ev.run (c' := (40, [.ref 12, .ref 2, .int x2, .int x3, .int x4, .int x5, .int x6, .int x7, u8, u9], [.int v1], hp E w1)) hM_20 0 rfl ?_
  refine Ev.ifF hM_20 rfl (cI_eqF c2) ?_
  refine Ev.run (c' := (48, [.ref 12, .ref 2, .int x2, .int x3, .int x4, .int x5, .int x6, .int x7, u8, u9], [.int x7, .int x3, .int x2, .ref 12], hp E w1)) hM_20 4 rfl ?_
  refine Ev.callR hd hM_20 rfl (y := 16) (as := [.ref 12, .int x2, .int x3, .int x7]) (rest := []) rfl (Nat.le_of_ble_eq_true rfl) h2 ?_
  refine Ev.run (c' := (56, [.ref 12, .ref 2, .int x2, .int x3, .int x4, .int x5, .int x6, .int x7, .int v2, u9], [.int (-1 : Int32), .int v2], hp E w2)) hM_20 3 rfl ?_
  refine Ev.icT hM_20 rfl (cI_neT c3) ?_
  refine Ev.run (c' := (72, [.ref 12, .ref 2, .int x2, .int x3, .int x4, .int x5, .int x6, .int x7, .int v2, .int v2], [.int x6, .int v2], hp E w2)) hM_20 4 rfl ?_
  refine Ev.icT hM_20 rfl (cI_leT c4) ?_
  refine Ev.run (c' := (23, [.ref 12, .ref 2, .int x2, .int x3, .int x4, .int x5, .int x6, .int (x7 + (1 : Int32)), .int v2, .int v2], [], hp E w2)) hM_20 2 rfl ?_
  exact e
theorem p20_23_e {E : Nat × (Nat → Int32)} {w : Wd} {d : Nat} {x2 x3 x4 x5 x6 x7 : Int32} {u8 u9 : Value} {o : Ou} {w1 : Wd} {v1 : Int32} {y7 : Int32} (hd : 1 ≤ d) (c1 : x7 < (gF w 1)) (h1 : Ev (d - 1) 48 (ent0 48 [.ref 2, .int x4, .int x7] (hp E w)) (.inl (some (.int v1)), hp E w1)) (c2 : v1 = 0) (q7 : (x7 + (1 : Int32)) = y7) (e : Ev d 20 (23, [.ref 12, .ref 2, .int x2, .int x3, .int x4, .int x5, .int x6, .int y7, u8, u9], [], hp E w1) o) : Ev d 20 (23, [.ref 12, .ref 2, .int x2, .int x3, .int x4, .int x5, .int x6, .int x7, u8, u9], [], hp E w) o := by
  subst q7
  refine Ev.run (c' := (26, [.ref 12, .ref 2, .int x2, .int x3, .int x4, .int x5, .int x6, .int x7, u8, u9], [.ref 2, .int x7], hp E w)) hM_20 2 rfl ?_
  refine Ev.callR hd hM_20 rfl (y := 39) (as := [.ref 2]) (rest := [.int x7]) rfl (Nat.le_of_ble_eq_true rfl) (Ev.run (c' := (4, [.ref 2], [.int (gF w 1)], hp E w)) hM_39 2 rfl (Ev.fin hM_39 rfl rfl)) ?_
  refine Ev.run (c' := (29, [.ref 12, .ref 2, .int x2, .int x3, .int x4, .int x5, .int x6, .int x7, u8, u9], [.int (gF w 1), .int x7], hp E w)) hM_20 0 rfl ?_
  refine Ev.icF hM_20 rfl (cI_geF c1) ?_
  refine Ev.run (c' := (37, [.ref 12, .ref 2, .int x2, .int x3, .int x4, .int x5, .int x6, .int x7, u8, u9], [.int x7, .int x4, .ref 2], hp E w)) hM_20 3 rfl ?_
  refine Ev.callR hd hM_20 rfl (y := 48) (as := [.ref 2, .int x4, .int x7]) (rest := []) rfl (Nat.le_of_ble_eq_true rfl) h1 ?_
  refine Ev.run (c' := (40, [.ref 12, .ref 2, .int x2, .int x3, .int x4, .int x5, .int x6, .int x7, u8, u9], [.int v1], hp E w1)) hM_20 0 rfl ?_
  refine Ev.ifT hM_20 rfl (cI_eqT c2) ?_
  refine Ev.run (c' := (23, [.ref 12, .ref 2, .int x2, .int x3, .int x4, .int x5, .int x6, .int (x7 + (1 : Int32)), u8, u9], [], hp E w1)) hM_20 2 rfl ?_
  exact e
theorem p20_23_f {E : Nat × (Nat → Int32)} {w : Wd} {d : Nat} {x2 x3 x4 x5 x6 x7 : Int32} {u8 u9 : Value}  (hd : 1 ≤ d) (c1 : ¬ x7 < (gF w 1)) : Ev d 20 (23, [.ref 12, .ref 2, .int x2, .int x3, .int x4, .int x5, .int x6, .int x7, u8, u9], [], hp E w) (.inl (some (.int x5)), hp E w) := by
  refine Ev.run (c' := (26, [.ref 12, .ref 2, .int x2, .int x3, .int x4, .int x5, .int x6, .int x7, u8, u9], [.ref 2, .int x7], hp E w)) hM_20 2 rfl ?_
  refine Ev.callR hd hM_20 rfl (y := 39) (as := [.ref 2]) (rest := [.int x7]) rfl (Nat.le_of_ble_eq_true rfl) (Ev.run (c' := (4, [.ref 2], [.int (gF w 1)], hp E w)) hM_39 2 rfl (Ev.fin hM_39 rfl rfl)) ?_
  refine Ev.run (c' := (29, [.ref 12, .ref 2, .int x2, .int x3, .int x4, .int x5, .int x6, .int x7, u8, u9], [.int (gF w 1), .int x7], hp E w)) hM_20 0 rfl ?_
  refine Ev.icT hM_20 rfl (cI_geT c1) ?_
  refine Ev.run (c' := (91, [.ref 12, .ref 2, .int x2, .int x3, .int x4, .int x5, .int x6, .int x7, u8, u9], [.int x5], hp E w)) hM_20 1 rfl ?_
  exact Ev.fin hM_20 rfl rfl
theorem hM_21 : mAt 21 = some km_X1_oneCatches := rfl
theorem p21_e_a {E : Nat × (Nat → Int32)} {w : Wd} {d : Nat} {w1 : Wd} {v1 : Int32} (hd : 1 ≤ d) (h1 : Ev (d - 1) 23 (ent0 23 [.ref 12, .ref 2, .int (9 : Int32)] (hp E w)) (.inl (some (.int v1)), hp E w1)) (hb : v1 &&& 1 = v1) : Ev d 21 (ent0 21 [.ref 12, .ref 2] (hp E w)) (.inl (some (.int v1)), hp E w1) := by
  refine Ev.run (c' := (4, [.ref 12, .ref 2], [.int (9 : Int32), .ref 2, .ref 12], hp E w)) hM_21 3 rfl ?_
  refine Ev.callR hd hM_21 rfl (y := 23) (as := [.ref 12, .ref 2, .int (9 : Int32)]) (rest := []) rfl (Nat.le_of_ble_eq_true rfl) h1 ?_
  refine Ev.run (c' := (7, [.ref 12, .ref 2], [.int v1], hp E w1)) hM_21 0 rfl ?_
  exact Ev.finZ hM_21 rfl rfl hb
theorem hM_22 : mAt 22 = some km_X1_twoCatch := rfl
theorem p22_e_a {E : Nat × (Nat → Int32)} {w : Wd} {d : Nat} {o : Ou}  (e : Ev d 22 (2, [.ref 12, .ref 2, .int (0 : Int32)], [], hp E w) o) : Ev d 22 (ent0 22 [.ref 12, .ref 2] (hp E w)) o := by
  refine Ev.run (c' := (2, [.ref 12, .ref 2, .int (0 : Int32)], [], hp E w)) hM_22 2 rfl ?_
  exact e
theorem p22_2_a {E : Nat × (Nat → Int32)} {w : Wd} {d : Nat} {x2 : Int32} {w1 : Wd} {v1 : Int32} (hd : 1 ≤ d) (c1 : x2 < (gF w 1)) (h1 : Ev (d - 1) 23 (ent0 23 [.ref 12, .ref 2, .int x2] (hp E w)) (.inl (some (.int v1)), hp E w1)) (c2 : ¬ v1 = 0) : Ev d 22 (2, [.ref 12, .ref 2, .int x2], [], hp E w) (.inl (some (.int (1 : Int32))), hp E w1) := by
  refine Ev.run (c' := (4, [.ref 12, .ref 2, .int x2], [.ref 2, .int x2], hp E w)) hM_22 2 rfl ?_
  refine Ev.callR hd hM_22 rfl (y := 39) (as := [.ref 2]) (rest := [.int x2]) rfl (Nat.le_of_ble_eq_true rfl) (Ev.run (c' := (4, [.ref 2], [.int (gF w 1)], hp E w)) hM_39 2 rfl (Ev.fin hM_39 rfl rfl)) ?_
  refine Ev.run (c' := (7, [.ref 12, .ref 2, .int x2], [.int (gF w 1), .int x2], hp E w)) hM_22 0 rfl ?_
  refine Ev.icF hM_22 rfl (cI_geF c1) ?_
  refine Ev.run (c' := (13, [.ref 12, .ref 2, .int x2], [.int x2, .ref 2, .ref 12], hp E w)) hM_22 3 rfl ?_
  refine Ev.callR hd hM_22 rfl (y := 23) (as := [.ref 12, .ref 2, .int x2]) (rest := []) rfl (Nat.le_of_ble_eq_true rfl) h1 ?_
  refine Ev.run (c' := (16, [.ref 12, .ref 2, .int x2], [.int v1], hp E w1)) hM_22 0 rfl ?_
  refine Ev.ifF hM_22 rfl (cI_eqF c2) ?_
  refine Ev.run (c' := (20, [.ref 12, .ref 2, .int x2], [.int (1 : Int32)], hp E w1)) hM_22 1 rfl ?_
  exact Ev.fin hM_22 rfl rfl
theorem p22_2_b {E : Nat × (Nat → Int32)} {w : Wd} {d : Nat} {x2 : Int32} {o : Ou} {w1 : Wd} {v1 : Int32} {y2 : Int32} (hd : 1 ≤ d) (c1 : x2 < (gF w 1)) (h1 : Ev (d - 1) 23 (ent0 23 [.ref 12, .ref 2, .int x2] (hp E w)) (.inl (some (.int v1)), hp E w1)) (c2 : v1 = 0) (q2 : (x2 + (1 : Int32)) = y2) (e : Ev d 22 (2, [.ref 12, .ref 2, .int y2], [], hp E w1) o) : Ev d 22 (2, [.ref 12, .ref 2, .int x2], [], hp E w) o := by
  subst q2
  refine Ev.run (c' := (4, [.ref 12, .ref 2, .int x2], [.ref 2, .int x2], hp E w)) hM_22 2 rfl ?_
  refine Ev.callR hd hM_22 rfl (y := 39) (as := [.ref 2]) (rest := [.int x2]) rfl (Nat.le_of_ble_eq_true rfl) (Ev.run (c' := (4, [.ref 2], [.int (gF w 1)], hp E w)) hM_39 2 rfl (Ev.fin hM_39 rfl rfl)) ?_
  refine Ev.run (c' := (7, [.ref 12, .ref 2, .int x2], [.int (gF w 1), .int x2], hp E w)) hM_22 0 rfl ?_
  refine Ev.icF hM_22 rfl (cI_geF c1) ?_
  refine Ev.run (c' := (13, [.ref 12, .ref 2, .int x2], [.int x2, .ref 2, .ref 12], hp E w)) hM_22 3 rfl ?_
  refine Ev.callR hd hM_22 rfl (y := 23) (as := [.ref 12, .ref 2, .int x2]) (rest := []) rfl (Nat.le_of_ble_eq_true rfl) h1 ?_
  refine Ev.run (c' := (16, [.ref 12, .ref 2, .int x2], [.int v1], hp E w1)) hM_22 0 rfl ?_
  refine Ev.ifT hM_22 rfl (cI_eqT c2) ?_
  refine Ev.run (c' := (2, [.ref 12, .ref 2, .int (x2 + (1 : Int32))], [], hp E w1)) hM_22 2 rfl ?_
  exact e
theorem p22_2_c {E : Nat × (Nat → Int32)} {w : Wd} {d : Nat} {x2 : Int32}  (hd : 1 ≤ d) (c1 : ¬ x2 < (gF w 1)) : Ev d 22 (2, [.ref 12, .ref 2, .int x2], [], hp E w) (.inl (some (.int (0 : Int32))), hp E w) := by
  refine Ev.run (c' := (4, [.ref 12, .ref 2, .int x2], [.ref 2, .int x2], hp E w)) hM_22 2 rfl ?_
  refine Ev.callR hd hM_22 rfl (y := 39) (as := [.ref 2]) (rest := [.int x2]) rfl (Nat.le_of_ble_eq_true rfl) (Ev.run (c' := (4, [.ref 2], [.int (gF w 1)], hp E w)) hM_39 2 rfl (Ev.fin hM_39 rfl rfl)) ?_
  refine Ev.run (c' := (7, [.ref 12, .ref 2, .int x2], [.int (gF w 1), .int x2], hp E w)) hM_22 0 rfl ?_
  refine Ev.icT hM_22 rfl (cI_geT c1) ?_
  refine Ev.run (c' := (28, [.ref 12, .ref 2, .int x2], [.int (0 : Int32)], hp E w)) hM_22 1 rfl ?_
  exact Ev.fin hM_22 rfl rfl
theorem hM_23 : mAt 23 = some km_X1_catchesFrom := rfl
theorem p23_e_a {E : Nat × (Nat → Int32)} {w : Wd} {d : Nat} {x2 : Int32} {o : Ou}  (e : Ev d 23 (2, [.ref 12, .ref 2, .int x2, .int (0 : Int32)], [], hp E w) o) : Ev d 23 (ent0 23 [.ref 12, .ref 2, .int x2] (hp E w)) o := by
  refine Ev.run (c' := (2, [.ref 12, .ref 2, .int x2, .int (0 : Int32)], [], hp E w)) hM_23 2 rfl ?_
  exact e
theorem p23_2_a {E : Nat × (Nat → Int32)} {w : Wd} {d : Nat} {x2 x3 : Int32} {j1 : Nat} {w1 : Wd} {v1 : Int32} (hd : 1 ≤ d) (c1 : x3 < (gF w 1)) (g1 : ((x3 * (10 : Int32)) + x2) = I j1) (b1 : j1 < 2147483648) (h1 : Ev (d - 1) 42 (ent0 42 [.ref 2] (hp E w)) (.inl (some (.int v1)), hp E w1)) (c2 : (rv 90 (gA w 5) j1) = v1) : Ev d 23 (2, [.ref 12, .ref 2, .int x2, .int x3], [], hp E w) (.inl (some (.int (1 : Int32))), hp E w1) := by
  refine Ev.run (c' := (4, [.ref 12, .ref 2, .int x2, .int x3], [.ref 2, .int x3], hp E w)) hM_23 2 rfl ?_
  refine Ev.callR hd hM_23 rfl (y := 39) (as := [.ref 2]) (rest := [.int x3]) rfl (Nat.le_of_ble_eq_true rfl) (Ev.run (c' := (4, [.ref 2], [.int (gF w 1)], hp E w)) hM_39 2 rfl (Ev.fin hM_39 rfl rfl)) ?_
  refine Ev.run (c' := (7, [.ref 12, .ref 2, .int x2, .int x3], [.int (gF w 1), .int x3], hp E w)) hM_23 0 rfl ?_
  refine Ev.icF hM_23 rfl (cI_geF c1) ?_
  refine Ev.run (c' := (16, [.ref 12, .ref 2, .int x2, .int x3], [.int x2, .int x3, .ref 15], hp E w)) hM_23 4 rfl ?_
  refine Ev.callR hd hM_23 rfl (y := 8) (as := [.int x3, .int x2]) (rest := [.ref 15]) rfl (Nat.le_of_ble_eq_true rfl) (pair_spec) ?_
  refine Ev.run (c' := (19, [.ref 12, .ref 2, .int x2, .int x3], [.int ((x3 * (10 : Int32)) + x2), .ref 15], hp E w)) hM_23 0 rfl ?_
  rw [g1]
  refine Ev.callR hd hM_23 rfl (y := 55) (as := [.ref 15, .int (I j1)]) (rest := []) rfl (Nat.le_of_ble_eq_true rfl) (row_at (a := 15) (b := 16) (n := 90) rfl rfl (by decide) b1) ?_
  refine Ev.run (c' := (23, [.ref 12, .ref 2, .int x2, .int x3], [.ref 2, .int (rv 90 (gA w 5) j1)], hp E w)) hM_23 1 rfl ?_
  refine Ev.callR hd hM_23 rfl (y := 42) (as := [.ref 2]) (rest := [.int (rv 90 (gA w 5) j1)]) rfl (Nat.le_of_ble_eq_true rfl) h1 ?_
  refine Ev.run (c' := (26, [.ref 12, .ref 2, .int x2, .int x3], [.int v1, .int (rv 90 (gA w 5) j1)], hp E w1)) hM_23 0 rfl ?_
  refine Ev.icF hM_23 rfl (cI_neF c2) ?_
  refine Ev.run (c' := (30, [.ref 12, .ref 2, .int x2, .int x3], [.int (1 : Int32)], hp E w1)) hM_23 1 rfl ?_
  exact Ev.fin hM_23 rfl rfl
theorem p23_2_b {E : Nat × (Nat → Int32)} {w : Wd} {d : Nat} {x2 x3 : Int32} {o : Ou} {j1 : Nat} {w1 : Wd} {v1 : Int32} {y3 : Int32} (hd : 1 ≤ d) (c1 : x3 < (gF w 1)) (g1 : ((x3 * (10 : Int32)) + x2) = I j1) (b1 : j1 < 2147483648) (h1 : Ev (d - 1) 42 (ent0 42 [.ref 2] (hp E w)) (.inl (some (.int v1)), hp E w1)) (c2 : ¬ (rv 90 (gA w 5) j1) = v1) (q3 : (x3 + (1 : Int32)) = y3) (e : Ev d 23 (2, [.ref 12, .ref 2, .int x2, .int y3], [], hp E w1) o) : Ev d 23 (2, [.ref 12, .ref 2, .int x2, .int x3], [], hp E w) o := by
  subst q3
  refine Ev.run (c' := (4, [.ref 12, .ref 2, .int x2, .int x3], [.ref 2, .int x3], hp E w)) hM_23 2 rfl ?_
  refine Ev.callR hd hM_23 rfl (y := 39) (as := [.ref 2]) (rest := [.int x3]) rfl (Nat.le_of_ble_eq_true rfl) (Ev.run (c' := (4, [.ref 2], [.int (gF w 1)], hp E w)) hM_39 2 rfl (Ev.fin hM_39 rfl rfl)) ?_
  refine Ev.run (c' := (7, [.ref 12, .ref 2, .int x2, .int x3], [.int (gF w 1), .int x3], hp E w)) hM_23 0 rfl ?_
  refine Ev.icF hM_23 rfl (cI_geF c1) ?_
  refine Ev.run (c' := (16, [.ref 12, .ref 2, .int x2, .int x3], [.int x2, .int x3, .ref 15], hp E w)) hM_23 4 rfl ?_
  refine Ev.callR hd hM_23 rfl (y := 8) (as := [.int x3, .int x2]) (rest := [.ref 15]) rfl (Nat.le_of_ble_eq_true rfl) (pair_spec) ?_
  refine Ev.run (c' := (19, [.ref 12, .ref 2, .int x2, .int x3], [.int ((x3 * (10 : Int32)) + x2), .ref 15], hp E w)) hM_23 0 rfl ?_
  rw [g1]
  refine Ev.callR hd hM_23 rfl (y := 55) (as := [.ref 15, .int (I j1)]) (rest := []) rfl (Nat.le_of_ble_eq_true rfl) (row_at (a := 15) (b := 16) (n := 90) rfl rfl (by decide) b1) ?_
  refine Ev.run (c' := (23, [.ref 12, .ref 2, .int x2, .int x3], [.ref 2, .int (rv 90 (gA w 5) j1)], hp E w)) hM_23 1 rfl ?_
  refine Ev.callR hd hM_23 rfl (y := 42) (as := [.ref 2]) (rest := [.int (rv 90 (gA w 5) j1)]) rfl (Nat.le_of_ble_eq_true rfl) h1 ?_
  refine Ev.run (c' := (26, [.ref 12, .ref 2, .int x2, .int x3], [.int v1, .int (rv 90 (gA w 5) j1)], hp E w1)) hM_23 0 rfl ?_
  refine Ev.icT hM_23 rfl (cI_neT c2) ?_
  refine Ev.run (c' := (2, [.ref 12, .ref 2, .int x2, .int (x3 + (1 : Int32))], [], hp E w1)) hM_23 2 rfl ?_
  exact e
theorem p23_2_c {E : Nat × (Nat → Int32)} {w : Wd} {d : Nat} {x2 x3 : Int32}  (hd : 1 ≤ d) (c1 : ¬ x3 < (gF w 1)) : Ev d 23 (2, [.ref 12, .ref 2, .int x2, .int x3], [], hp E w) (.inl (some (.int (0 : Int32))), hp E w) := by
  refine Ev.run (c' := (4, [.ref 12, .ref 2, .int x2, .int x3], [.ref 2, .int x3], hp E w)) hM_23 2 rfl ?_
  refine Ev.callR hd hM_23 rfl (y := 39) (as := [.ref 2]) (rest := [.int x3]) rfl (Nat.le_of_ble_eq_true rfl) (Ev.run (c' := (4, [.ref 2], [.int (gF w 1)], hp E w)) hM_39 2 rfl (Ev.fin hM_39 rfl rfl)) ?_
  refine Ev.run (c' := (7, [.ref 12, .ref 2, .int x2, .int x3], [.int (gF w 1), .int x3], hp E w)) hM_23 0 rfl ?_
  refine Ev.icT hM_23 rfl (cI_geT c1) ?_
  refine Ev.run (c' := (38, [.ref 12, .ref 2, .int x2, .int x3], [.int (0 : Int32)], hp E w)) hM_23 1 rfl ?_
  exact Ev.fin hM_23 rfl rfl
theorem hM_25 : mAt 25 = some km_X2_prepare := rfl
theorem p25_e_a {E : Nat × (Nat → Int32)} {w : Wd} {d : Nat}  (hd : 1 ≤ d) (c1 : (gF w 7) = (gF w 2)) : Ev d 25 (ent0 25 [.ref 26, .ref 2] (hp E w)) (.inl none, hp E w) := by
  refine Ev.run (c' := (5, [.ref 26, .ref 2, jk, jk], [.ref 2, .int (gF w 7)], hp E w)) hM_25 3 rfl ?_
  refine Ev.callR hd hM_25 rfl (y := 40) (as := [.ref 2]) (rest := [.int (gF w 7)]) rfl (Nat.le_of_ble_eq_true rfl) (Ev.run (c' := (4, [.ref 2], [.int (gF w 2)], hp E w)) hM_40 2 rfl (Ev.fin hM_40 rfl rfl)) ?_
  refine Ev.run (c' := (8, [.ref 26, .ref 2, jk, jk], [.int (gF w 2), .int (gF w 7)], hp E w)) hM_25 0 rfl ?_
  refine Ev.icF hM_25 rfl (cI_neF c1) ?_
  exact Ev.fin hM_25 rfl rfl
theorem p25_e_b {E : Nat × (Nat → Int32)} {w : Wd} {d : Nat} {o : Ou} {w1 : Wd} {v1 : Int32} {w' : Wd} (hd : 1 ≤ d) (c1 : ¬ (gF w 7) = (gF w 2)) (h1 : Ev (d - 1) 42 (ent0 42 [.ref 2] (hp E w)) (.inl (some (.int v1)), hp E w1)) (qw : (sF 6 v1 w1) = w') (e : Ev d 25 (22, [.ref 26, .ref 2, .int (0 : Int32), jk], [], hp E w') o) : Ev d 25 (ent0 25 [.ref 26, .ref 2] (hp E w)) o := by
  subst qw
  refine Ev.run (c' := (5, [.ref 26, .ref 2, jk, jk], [.ref 2, .int (gF w 7)], hp E w)) hM_25 3 rfl ?_
  refine Ev.callR hd hM_25 rfl (y := 40) (as := [.ref 2]) (rest := [.int (gF w 7)]) rfl (Nat.le_of_ble_eq_true rfl) (Ev.run (c' := (4, [.ref 2], [.int (gF w 2)], hp E w)) hM_40 2 rfl (Ev.fin hM_40 rfl rfl)) ?_
  refine Ev.run (c' := (8, [.ref 26, .ref 2, jk, jk], [.int (gF w 2), .int (gF w 7)], hp E w)) hM_25 0 rfl ?_
  refine Ev.icT hM_25 rfl (cI_neT c1) ?_
  refine Ev.run (c' := (14, [.ref 26, .ref 2, jk, jk], [.ref 2, .ref 26], hp E w)) hM_25 2 rfl ?_
  refine Ev.callR hd hM_25 rfl (y := 42) (as := [.ref 2]) (rest := [.ref 26]) rfl (Nat.le_of_ble_eq_true rfl) h1 ?_
  refine Ev.run (c' := (22, [.ref 26, .ref 2, .int (0 : Int32), jk], [], hp E (sF 6 v1 w1))) hM_25 3 rfl ?_
  exact e
theorem p25_22_a {E : Nat × (Nat → Int32)} {w : Wd} {d : Nat} {x2 : Int32} {u3 : Value} {o : Ou} {w1 : Wd} {v1 : Int32} {w2 : Wd} {v2 : Int32} {z1 : Int32} {w3 : Wd} {v3 : Int32} {w4 : Wd} {v4 : Int32} {w5 : Wd} {v5 : Int32} {y2 : Int32} {w' : Wd} (hd : 1 ≤ d) (h1 : Ev (d - 1) 42 (ent0 42 [.ref 2] (hp E w)) (.inl (some (.int v1)), hp E w1)) (c1 : ¬ v1 < x2) (h2 : Ev (d - 1) 79 (ent0 79 [.int x2] (hp E w1)) (.inl (some (.int v2)), hp E w2)) (a1 : (gF w2 6) = z1) (h3 : Ev (d - 1) 79 (ent0 79 [.int z1] (hp E w2)) (.inl (some (.int v3)), hp E w3)) (c2 : v2 < v3) (h4 : Ev (d - 1) 27 (ent0 27 [.ref 2, .int x2] (hp E w3)) (.inl (some (.int v4)), hp E w4)) (h5 : Ev (d - 1) 42 (ent0 42 [.ref 2] (hp E w4)) (.inl (some (.int v5)), hp E w5)) (c3 : v4 = v5) (q2 : (x2 + (1 : Int32)) = y2) (qw : (sF 6 x2 w5) = w') (e : Ev d 25 (22, [.ref 26, .ref 2, .int y2, .int (1 : Int32)], [], hp E w') o) : Ev d 25 (22, [.ref 26, .ref 2, .int x2, u3], [], hp E w) o := by
  subst qw
  subst q2
  refine Ev.run (c' := (24, [.ref 26, .ref 2, .int x2, u3], [.ref 2, .int x2], hp E w)) hM_25 2 rfl ?_
  refine Ev.callR hd hM_25 rfl (y := 42) (as := [.ref 2]) (rest := [.int x2]) rfl (Nat.le_of_ble_eq_true rfl) h1 ?_
  refine Ev.run (c' := (27, [.ref 26, .ref 2, .int x2, u3], [.int v1, .int x2], hp E w1)) hM_25 0 rfl ?_
  refine Ev.icF hM_25 rfl (cI_gtF c1) ?_
  refine Ev.run (c' := (31, [.ref 26, .ref 2, .int x2, u3], [.int x2], hp E w1)) hM_25 1 rfl ?_
  refine Ev.callR hd hM_25 rfl (y := 79) (as := [.int x2]) (rest := []) rfl (Nat.le_of_ble_eq_true rfl) h2 ?_
  refine Ev.run (c' := (38, [.ref 26, .ref 2, .int x2, u3], [.int (gF w2 6), .int v2], hp E w2)) hM_25 2 rfl ?_
  rw [← a1] at h3
  refine Ev.callR hd hM_25 rfl (y := 79) (as := [.int (gF w2 6)]) (rest := [.int v2]) rfl (Nat.le_of_ble_eq_true rfl) h3 ?_
  refine Ev.run (c' := (41, [.ref 26, .ref 2, .int x2, u3], [.int v3, .int v2], hp E w3)) hM_25 0 rfl ?_
  refine Ev.icF hM_25 rfl (cI_geF c2) ?_
  refine Ev.run (c' := (51, [.ref 26, .ref 2, .int x2, .int (1 : Int32)], [.int (1 : Int32)], hp E w3)) hM_25 4 rfl ?_
  refine Ev.ifF hM_25 rfl (by decide) ?_
  refine Ev.run (c' := (56, [.ref 26, .ref 2, .int x2, .int (1 : Int32)], [.int x2, .ref 2], hp E w3)) hM_25 2 rfl ?_
  refine Ev.callR hd hM_25 rfl (y := 27) (as := [.ref 2, .int x2]) (rest := []) rfl (Nat.le_of_ble_eq_true rfl) h4 ?_
  refine Ev.run (c' := (60, [.ref 26, .ref 2, .int x2, .int (1 : Int32)], [.ref 2, .int v4], hp E w4)) hM_25 1 rfl ?_
  refine Ev.callR hd hM_25 rfl (y := 42) (as := [.ref 2]) (rest := [.int v4]) rfl (Nat.le_of_ble_eq_true rfl) h5 ?_
  refine Ev.run (c' := (63, [.ref 26, .ref 2, .int x2, .int (1 : Int32)], [.int v5, .int v4], hp E w5)) hM_25 0 rfl ?_
  refine Ev.icF hM_25 rfl (cI_neF c3) ?_
  refine Ev.run (c' := (22, [.ref 26, .ref 2, .int (x2 + (1 : Int32)), .int (1 : Int32)], [], hp E (sF 6 x2 w5))) hM_25 5 rfl ?_
  exact e
theorem p25_22_b {E : Nat × (Nat → Int32)} {w : Wd} {d : Nat} {x2 : Int32} {u3 : Value} {o : Ou} {w1 : Wd} {v1 : Int32} {w2 : Wd} {v2 : Int32} {z1 : Int32} {w3 : Wd} {v3 : Int32} {w4 : Wd} {v4 : Int32} {w5 : Wd} {v5 : Int32} {y2 : Int32} (hd : 1 ≤ d) (h1 : Ev (d - 1) 42 (ent0 42 [.ref 2] (hp E w)) (.inl (some (.int v1)), hp E w1)) (c1 : ¬ v1 < x2) (h2 : Ev (d - 1) 79 (ent0 79 [.int x2] (hp E w1)) (.inl (some (.int v2)), hp E w2)) (a1 : (gF w2 6) = z1) (h3 : Ev (d - 1) 79 (ent0 79 [.int z1] (hp E w2)) (.inl (some (.int v3)), hp E w3)) (c2 : v2 < v3) (h4 : Ev (d - 1) 27 (ent0 27 [.ref 2, .int x2] (hp E w3)) (.inl (some (.int v4)), hp E w4)) (h5 : Ev (d - 1) 42 (ent0 42 [.ref 2] (hp E w4)) (.inl (some (.int v5)), hp E w5)) (c3 : ¬ v4 = v5) (q2 : (x2 + (1 : Int32)) = y2) (e : Ev d 25 (22, [.ref 26, .ref 2, .int y2, .int (1 : Int32)], [], hp E w5) o) : Ev d 25 (22, [.ref 26, .ref 2, .int x2, u3], [], hp E w) o := by
  subst q2
  refine Ev.run (c' := (24, [.ref 26, .ref 2, .int x2, u3], [.ref 2, .int x2], hp E w)) hM_25 2 rfl ?_
  refine Ev.callR hd hM_25 rfl (y := 42) (as := [.ref 2]) (rest := [.int x2]) rfl (Nat.le_of_ble_eq_true rfl) h1 ?_
  refine Ev.run (c' := (27, [.ref 26, .ref 2, .int x2, u3], [.int v1, .int x2], hp E w1)) hM_25 0 rfl ?_
  refine Ev.icF hM_25 rfl (cI_gtF c1) ?_
  refine Ev.run (c' := (31, [.ref 26, .ref 2, .int x2, u3], [.int x2], hp E w1)) hM_25 1 rfl ?_
  refine Ev.callR hd hM_25 rfl (y := 79) (as := [.int x2]) (rest := []) rfl (Nat.le_of_ble_eq_true rfl) h2 ?_
  refine Ev.run (c' := (38, [.ref 26, .ref 2, .int x2, u3], [.int (gF w2 6), .int v2], hp E w2)) hM_25 2 rfl ?_
  rw [← a1] at h3
  refine Ev.callR hd hM_25 rfl (y := 79) (as := [.int (gF w2 6)]) (rest := [.int v2]) rfl (Nat.le_of_ble_eq_true rfl) h3 ?_
  refine Ev.run (c' := (41, [.ref 26, .ref 2, .int x2, u3], [.int v3, .int v2], hp E w3)) hM_25 0 rfl ?_
  refine Ev.icF hM_25 rfl (cI_geF c2) ?_
  refine Ev.run (c' := (51, [.ref 26, .ref 2, .int x2, .int (1 : Int32)], [.int (1 : Int32)], hp E w3)) hM_25 4 rfl ?_
  refine Ev.ifF hM_25 rfl (by decide) ?_
  refine Ev.run (c' := (56, [.ref 26, .ref 2, .int x2, .int (1 : Int32)], [.int x2, .ref 2], hp E w3)) hM_25 2 rfl ?_
  refine Ev.callR hd hM_25 rfl (y := 27) (as := [.ref 2, .int x2]) (rest := []) rfl (Nat.le_of_ble_eq_true rfl) h4 ?_
  refine Ev.run (c' := (60, [.ref 26, .ref 2, .int x2, .int (1 : Int32)], [.ref 2, .int v4], hp E w4)) hM_25 1 rfl ?_
  refine Ev.callR hd hM_25 rfl (y := 42) (as := [.ref 2]) (rest := [.int v4]) rfl (Nat.le_of_ble_eq_true rfl) h5 ?_
  refine Ev.run (c' := (63, [.ref 26, .ref 2, .int x2, .int (1 : Int32)], [.int v5, .int v4], hp E w5)) hM_25 0 rfl ?_
  refine Ev.icT hM_25 rfl (cI_neT c3) ?_
  refine Ev.run (c' := (22, [.ref 26, .ref 2, .int (x2 + (1 : Int32)), .int (1 : Int32)], [], hp E w5)) hM_25 2 rfl ?_
  exact e
theorem p25_22_c {E : Nat × (Nat → Int32)} {w : Wd} {d : Nat} {x2 : Int32} {u3 : Value} {o : Ou} {w1 : Wd} {v1 : Int32} {w2 : Wd} {v2 : Int32} {z1 : Int32} {w3 : Wd} {v3 : Int32} {y2 : Int32} (hd : 1 ≤ d) (h1 : Ev (d - 1) 42 (ent0 42 [.ref 2] (hp E w)) (.inl (some (.int v1)), hp E w1)) (c1 : ¬ v1 < x2) (h2 : Ev (d - 1) 79 (ent0 79 [.int x2] (hp E w1)) (.inl (some (.int v2)), hp E w2)) (a1 : (gF w2 6) = z1) (h3 : Ev (d - 1) 79 (ent0 79 [.int z1] (hp E w2)) (.inl (some (.int v3)), hp E w3)) (c2 : ¬ v2 < v3) (q2 : (x2 + (1 : Int32)) = y2) (e : Ev d 25 (22, [.ref 26, .ref 2, .int y2, .int (0 : Int32)], [], hp E w3) o) : Ev d 25 (22, [.ref 26, .ref 2, .int x2, u3], [], hp E w) o := by
  subst q2
  refine Ev.run (c' := (24, [.ref 26, .ref 2, .int x2, u3], [.ref 2, .int x2], hp E w)) hM_25 2 rfl ?_
  refine Ev.callR hd hM_25 rfl (y := 42) (as := [.ref 2]) (rest := [.int x2]) rfl (Nat.le_of_ble_eq_true rfl) h1 ?_
  refine Ev.run (c' := (27, [.ref 26, .ref 2, .int x2, u3], [.int v1, .int x2], hp E w1)) hM_25 0 rfl ?_
  refine Ev.icF hM_25 rfl (cI_gtF c1) ?_
  refine Ev.run (c' := (31, [.ref 26, .ref 2, .int x2, u3], [.int x2], hp E w1)) hM_25 1 rfl ?_
  refine Ev.callR hd hM_25 rfl (y := 79) (as := [.int x2]) (rest := []) rfl (Nat.le_of_ble_eq_true rfl) h2 ?_
  refine Ev.run (c' := (38, [.ref 26, .ref 2, .int x2, u3], [.int (gF w2 6), .int v2], hp E w2)) hM_25 2 rfl ?_
  rw [← a1] at h3
  refine Ev.callR hd hM_25 rfl (y := 79) (as := [.int (gF w2 6)]) (rest := [.int v2]) rfl (Nat.le_of_ble_eq_true rfl) h3 ?_
  refine Ev.run (c' := (41, [.ref 26, .ref 2, .int x2, u3], [.int v3, .int v2], hp E w3)) hM_25 0 rfl ?_
  refine Ev.icT hM_25 rfl (cI_geT c2) ?_
  refine Ev.run (c' := (51, [.ref 26, .ref 2, .int x2, .int (0 : Int32)], [.int (0 : Int32)], hp E w3)) hM_25 3 rfl ?_
  refine Ev.ifT hM_25 rfl (by decide) ?_
  refine Ev.run (c' := (22, [.ref 26, .ref 2, .int (x2 + (1 : Int32)), .int (0 : Int32)], [], hp E w3)) hM_25 2 rfl ?_
  exact e
theorem p25_22_d {E : Nat × (Nat → Int32)} {w : Wd} {d : Nat} {x2 : Int32} {u3 : Value} {w1 : Wd} {v1 : Int32} {w' : Wd} (hd : 1 ≤ d) (h1 : Ev (d - 1) 42 (ent0 42 [.ref 2] (hp E w)) (.inl (some (.int v1)), hp E w1)) (c1 : v1 < x2) (qw : (sF 7 (gF w1 2) w1) = w') : Ev d 25 (22, [.ref 26, .ref 2, .int x2, u3], [], hp E w) (.inl none, hp E w') := by
  subst qw
  refine Ev.run (c' := (24, [.ref 26, .ref 2, .int x2, u3], [.ref 2, .int x2], hp E w)) hM_25 2 rfl ?_
  refine Ev.callR hd hM_25 rfl (y := 42) (as := [.ref 2]) (rest := [.int x2]) rfl (Nat.le_of_ble_eq_true rfl) h1 ?_
  refine Ev.run (c' := (27, [.ref 26, .ref 2, .int x2, u3], [.int v1, .int x2], hp E w1)) hM_25 0 rfl ?_
  refine Ev.icT hM_25 rfl (cI_gtT c1) ?_
  refine Ev.run (c' := (79, [.ref 26, .ref 2, .int x2, u3], [.ref 2, .ref 26], hp E w1)) hM_25 2 rfl ?_
  refine Ev.callR hd hM_25 rfl (y := 40) (as := [.ref 2]) (rest := [.ref 26]) rfl (Nat.le_of_ble_eq_true rfl) (Ev.run (c' := (4, [.ref 2], [.int (gF w1 2)], hp E w1)) hM_40 2 rfl (Ev.fin hM_40 rfl rfl)) ?_
  refine Ev.run (c' := (85, [.ref 26, .ref 2, .int x2, u3], [], hp E (sF 7 (gF w1 2) w1))) hM_25 1 rfl ?_
  exact Ev.fin hM_25 rfl rfl
theorem hM_27 : mAt 27 = some km_X2_spread := rfl
theorem p27_e_a {E : Nat × (Nat → Int32)} {w : Wd} {d : Nat} {x1 : Int32} {o : Ou}  (e : Ev d 27 (4, [.ref 2, .int x1, .int x1, .int (0 : Int32), jk], [], hp E w) o) : Ev d 27 (ent0 27 [.ref 2, .int x1] (hp E w)) o := by
  refine Ev.run (c' := (4, [.ref 2, .int x1, .int x1, .int (0 : Int32), jk], [], hp E w)) hM_27 4 rfl ?_
  exact e
theorem p27_4_a {E : Nat × (Nat → Int32)} {w : Wd} {d : Nat} {x1 x2 x3 : Int32} {u4 : Value} {w1 : Wd} {v1 : Int32} (hd : 1 ≤ d) (c1 : x3 < (9 : Int32)) (h1 : Ev (d - 1) 28 (ent0 28 [.ref 2, .int x2] (hp E w)) (.inl (some (.int v1)), hp E w1)) (c2 : v1 = x2) : Ev d 27 (4, [.ref 2, .int x1, .int x2, .int x3, u4], [], hp E w) (.inl (some (.int x2)), hp E w1) := by
  refine Ev.run (c' := (7, [.ref 2, .int x1, .int x2, .int x3, u4], [.int (9 : Int32), .int x3], hp E w)) hM_27 2 rfl ?_
  refine Ev.icF hM_27 rfl (cI_geF c1) ?_
  refine Ev.run (c' := (12, [.ref 2, .int x1, .int x2, .int x3, u4], [.int x2, .ref 2], hp E w)) hM_27 2 rfl ?_
  refine Ev.callR hd hM_27 rfl (y := 28) (as := [.ref 2, .int x2]) (rest := []) rfl (Nat.le_of_ble_eq_true rfl) h1 ?_
  refine Ev.run (c' := (20, [.ref 2, .int x1, .int x2, .int x3, .int v1], [.int x2, .int v1], hp E w1)) hM_27 3 rfl ?_
  refine Ev.icF hM_27 rfl (cI_neF c2) ?_
  refine Ev.run (c' := (24, [.ref 2, .int x1, .int x2, .int x3, .int v1], [.int x2], hp E w1)) hM_27 1 rfl ?_
  exact Ev.fin hM_27 rfl rfl
theorem p27_4_b {E : Nat × (Nat → Int32)} {w : Wd} {d : Nat} {x1 x2 x3 : Int32} {u4 : Value} {o : Ou} {w1 : Wd} {v1 : Int32} {y3 : Int32} (hd : 1 ≤ d) (c1 : x3 < (9 : Int32)) (h1 : Ev (d - 1) 28 (ent0 28 [.ref 2, .int x2] (hp E w)) (.inl (some (.int v1)), hp E w1)) (c2 : ¬ v1 = x2) (q3 : (x3 + (1 : Int32)) = y3) (e : Ev d 27 (4, [.ref 2, .int x1, .int v1, .int y3, .int v1], [], hp E w1) o) : Ev d 27 (4, [.ref 2, .int x1, .int x2, .int x3, u4], [], hp E w) o := by
  subst q3
  refine Ev.run (c' := (7, [.ref 2, .int x1, .int x2, .int x3, u4], [.int (9 : Int32), .int x3], hp E w)) hM_27 2 rfl ?_
  refine Ev.icF hM_27 rfl (cI_geF c1) ?_
  refine Ev.run (c' := (12, [.ref 2, .int x1, .int x2, .int x3, u4], [.int x2, .ref 2], hp E w)) hM_27 2 rfl ?_
  refine Ev.callR hd hM_27 rfl (y := 28) (as := [.ref 2, .int x2]) (rest := []) rfl (Nat.le_of_ble_eq_true rfl) h1 ?_
  refine Ev.run (c' := (20, [.ref 2, .int x1, .int x2, .int x3, .int v1], [.int x2, .int v1], hp E w1)) hM_27 3 rfl ?_
  refine Ev.icT hM_27 rfl (cI_neT c2) ?_
  refine Ev.run (c' := (4, [.ref 2, .int x1, .int v1, .int (x3 + (1 : Int32)), .int v1], [], hp E w1)) hM_27 4 rfl ?_
  exact e
theorem p27_4_c {E : Nat × (Nat → Int32)} {w : Wd} {d : Nat} {x1 x2 x3 : Int32} {u4 : Value}  (c1 : ¬ x3 < (9 : Int32)) : Ev d 27 (4, [.ref 2, .int x1, .int x2, .int x3, u4], [], hp E w) (.inl (some (.int x2)), hp E w) := by
  refine Ev.run (c' := (7, [.ref 2, .int x1, .int x2, .int x3, u4], [.int (9 : Int32), .int x3], hp E w)) hM_27 2 rfl ?_
  refine Ev.icT hM_27 rfl (cI_geT c1) ?_
  refine Ev.run (c' := (35, [.ref 2, .int x1, .int x2, .int x3, u4], [.int x2], hp E w)) hM_27 1 rfl ?_
  exact Ev.fin hM_27 rfl rfl
theorem hM_28 : mAt 28 = some km_X2_afterRound := rfl
theorem p28_e_a {E : Nat × (Nat → Int32)} {w : Wd} {d : Nat} {x1 : Int32} {o : Ou}  (e : Ev d 28 (4, [.ref 2, .int x1, .int (0 : Int32), .int (0 : Int32), jk], [], hp E w) o) : Ev d 28 (ent0 28 [.ref 2, .int x1] (hp E w)) o := by
  refine Ev.run (c' := (4, [.ref 2, .int x1, .int (0 : Int32), .int (0 : Int32), jk], [], hp E w)) hM_28 4 rfl ?_
  exact e
theorem p28_4_a {E : Nat × (Nat → Int32)} {w : Wd} {d : Nat} {x1 x2 x3 : Int32} {u4 : Value} {o : Ou} {j1 : Nat} {z1 : Int32} {w1 : Wd} {v1 : Int32} {y2 : Int32} {y3 : Int32} (hd2 : 2 ≤ d) (c1 : x3 < (gF w 1)) (g1 : x3 = I j1) (b1 : j1 < 2147483648) (c2 : ¬ (x1 &&& ((1 : Int32) <<< ((I j1) &&& 31))) = 0) (a1 : ((rv 9 (gA w 0) j1) &&& (x1 ^^^ (-1 : Int32))) = z1) (h1 : Ev (d - 1) 79 (ent0 79 [.int z1] (hp E w)) (.inl (some (.int v1)), hp E w1)) (c3 : v1 = (1 : Int32)) (q2 : (x2 ||| ((rv 9 (gA w 0) j1) &&& (x1 ^^^ (-1 : Int32)))) = y2) (q3 : ((I j1) + (1 : Int32)) = y3) (e : Ev d 28 (4, [.ref 2, .int x1, .int y2, .int y3, .int ((rv 9 (gA w 0) j1) &&& (x1 ^^^ (-1 : Int32)))], [], hp E w1) o) : Ev d 28 (4, [.ref 2, .int x1, .int x2, .int x3, u4], [], hp E w) o := by
  have hd : 1 ≤ d := Nat.le_trans (by decide) hd2
  subst q3
  subst q2
  refine Ev.run (c' := (6, [.ref 2, .int x1, .int x2, .int x3, u4], [.ref 2, .int x3], hp E w)) hM_28 2 rfl ?_
  refine Ev.callR hd hM_28 rfl (y := 39) (as := [.ref 2]) (rest := [.int x3]) rfl (Nat.le_of_ble_eq_true rfl) (Ev.run (c' := (4, [.ref 2], [.int (gF w 1)], hp E w)) hM_39 2 rfl (Ev.fin hM_39 rfl rfl)) ?_
  refine Ev.run (c' := (9, [.ref 2, .int x1, .int x2, .int x3, u4], [.int (gF w 1), .int x3], hp E w)) hM_28 0 rfl ?_
  refine Ev.icF hM_28 rfl (cI_geF c1) ?_
  refine Ev.run (c' := (14, [.ref 2, .int x1, .int x2, .int x3, u4], [.int x3, .ref 2], hp E w)) hM_28 2 rfl ?_
  subst g1
  refine Ev.callR hd hM_28 rfl (y := 43) (as := [.ref 2, .int (I j1)]) (rest := []) rfl (Nat.le_of_ble_eq_true rfl) (nextTo_spec hd2 b1) ?_
  refine Ev.run (c' := (28, [.ref 2, .int x1, .int x2, .int (I j1), .int ((rv 9 (gA w 0) j1) &&& (x1 ^^^ (-1 : Int32)))], [.int (x1 &&& ((1 : Int32) <<< ((I j1) &&& 31)))], hp E w)) hM_28 10 rfl ?_
  refine Ev.ifF hM_28 rfl (cI_eqF c2) ?_
  refine Ev.run (c' := (33, [.ref 2, .int x1, .int x2, .int (I j1), .int ((rv 9 (gA w 0) j1) &&& (x1 ^^^ (-1 : Int32)))], [.int ((rv 9 (gA w 0) j1) &&& (x1 ^^^ (-1 : Int32)))], hp E w)) hM_28 1 rfl ?_
  rw [← a1] at h1
  refine Ev.callR hd hM_28 rfl (y := 79) (as := [.int ((rv 9 (gA w 0) j1) &&& (x1 ^^^ (-1 : Int32)))]) (rest := []) rfl (Nat.le_of_ble_eq_true rfl) h1 ?_
  refine Ev.run (c' := (37, [.ref 2, .int x1, .int x2, .int (I j1), .int ((rv 9 (gA w 0) j1) &&& (x1 ^^^ (-1 : Int32)))], [.int (1 : Int32), .int v1], hp E w1)) hM_28 1 rfl ?_
  refine Ev.icF hM_28 rfl (cI_neF c3) ?_
  refine Ev.run (c' := (4, [.ref 2, .int x1, .int (x2 ||| ((rv 9 (gA w 0) j1) &&& (x1 ^^^ (-1 : Int32)))), .int ((I j1) + (1 : Int32)), .int ((rv 9 (gA w 0) j1) &&& (x1 ^^^ (-1 : Int32)))], [], hp E w1)) hM_28 6 rfl ?_
  exact e
theorem p28_4_b {E : Nat × (Nat → Int32)} {w : Wd} {d : Nat} {x1 x2 x3 : Int32} {u4 : Value} {o : Ou} {j1 : Nat} {z1 : Int32} {w1 : Wd} {v1 : Int32} {y3 : Int32} (hd2 : 2 ≤ d) (c1 : x3 < (gF w 1)) (g1 : x3 = I j1) (b1 : j1 < 2147483648) (c2 : ¬ (x1 &&& ((1 : Int32) <<< ((I j1) &&& 31))) = 0) (a1 : ((rv 9 (gA w 0) j1) &&& (x1 ^^^ (-1 : Int32))) = z1) (h1 : Ev (d - 1) 79 (ent0 79 [.int z1] (hp E w)) (.inl (some (.int v1)), hp E w1)) (c3 : ¬ v1 = (1 : Int32)) (q3 : ((I j1) + (1 : Int32)) = y3) (e : Ev d 28 (4, [.ref 2, .int x1, .int x2, .int y3, .int ((rv 9 (gA w 0) j1) &&& (x1 ^^^ (-1 : Int32)))], [], hp E w1) o) : Ev d 28 (4, [.ref 2, .int x1, .int x2, .int x3, u4], [], hp E w) o := by
  have hd : 1 ≤ d := Nat.le_trans (by decide) hd2
  subst q3
  refine Ev.run (c' := (6, [.ref 2, .int x1, .int x2, .int x3, u4], [.ref 2, .int x3], hp E w)) hM_28 2 rfl ?_
  refine Ev.callR hd hM_28 rfl (y := 39) (as := [.ref 2]) (rest := [.int x3]) rfl (Nat.le_of_ble_eq_true rfl) (Ev.run (c' := (4, [.ref 2], [.int (gF w 1)], hp E w)) hM_39 2 rfl (Ev.fin hM_39 rfl rfl)) ?_
  refine Ev.run (c' := (9, [.ref 2, .int x1, .int x2, .int x3, u4], [.int (gF w 1), .int x3], hp E w)) hM_28 0 rfl ?_
  refine Ev.icF hM_28 rfl (cI_geF c1) ?_
  refine Ev.run (c' := (14, [.ref 2, .int x1, .int x2, .int x3, u4], [.int x3, .ref 2], hp E w)) hM_28 2 rfl ?_
  subst g1
  refine Ev.callR hd hM_28 rfl (y := 43) (as := [.ref 2, .int (I j1)]) (rest := []) rfl (Nat.le_of_ble_eq_true rfl) (nextTo_spec hd2 b1) ?_
  refine Ev.run (c' := (28, [.ref 2, .int x1, .int x2, .int (I j1), .int ((rv 9 (gA w 0) j1) &&& (x1 ^^^ (-1 : Int32)))], [.int (x1 &&& ((1 : Int32) <<< ((I j1) &&& 31)))], hp E w)) hM_28 10 rfl ?_
  refine Ev.ifF hM_28 rfl (cI_eqF c2) ?_
  refine Ev.run (c' := (33, [.ref 2, .int x1, .int x2, .int (I j1), .int ((rv 9 (gA w 0) j1) &&& (x1 ^^^ (-1 : Int32)))], [.int ((rv 9 (gA w 0) j1) &&& (x1 ^^^ (-1 : Int32)))], hp E w)) hM_28 1 rfl ?_
  rw [← a1] at h1
  refine Ev.callR hd hM_28 rfl (y := 79) (as := [.int ((rv 9 (gA w 0) j1) &&& (x1 ^^^ (-1 : Int32)))]) (rest := []) rfl (Nat.le_of_ble_eq_true rfl) h1 ?_
  refine Ev.run (c' := (37, [.ref 2, .int x1, .int x2, .int (I j1), .int ((rv 9 (gA w 0) j1) &&& (x1 ^^^ (-1 : Int32)))], [.int (1 : Int32), .int v1], hp E w1)) hM_28 1 rfl ?_
  refine Ev.icT hM_28 rfl (cI_neT c3) ?_
  refine Ev.run (c' := (4, [.ref 2, .int x1, .int x2, .int ((I j1) + (1 : Int32)), .int ((rv 9 (gA w 0) j1) &&& (x1 ^^^ (-1 : Int32)))], [], hp E w1)) hM_28 2 rfl ?_
  exact e
theorem p28_4_c {E : Nat × (Nat → Int32)} {w : Wd} {d : Nat} {x1 x2 x3 : Int32} {u4 : Value} {o : Ou} {j1 : Nat} {y3 : Int32} (hd2 : 2 ≤ d) (c1 : x3 < (gF w 1)) (g1 : x3 = I j1) (b1 : j1 < 2147483648) (c2 : (x1 &&& ((1 : Int32) <<< ((I j1) &&& 31))) = 0) (q3 : ((I j1) + (1 : Int32)) = y3) (e : Ev d 28 (4, [.ref 2, .int x1, .int x2, .int y3, .int ((rv 9 (gA w 0) j1) &&& (x1 ^^^ (-1 : Int32)))], [], hp E w) o) : Ev d 28 (4, [.ref 2, .int x1, .int x2, .int x3, u4], [], hp E w) o := by
  have hd : 1 ≤ d := Nat.le_trans (by decide) hd2
  subst q3
  refine Ev.run (c' := (6, [.ref 2, .int x1, .int x2, .int x3, u4], [.ref 2, .int x3], hp E w)) hM_28 2 rfl ?_
  refine Ev.callR hd hM_28 rfl (y := 39) (as := [.ref 2]) (rest := [.int x3]) rfl (Nat.le_of_ble_eq_true rfl) (Ev.run (c' := (4, [.ref 2], [.int (gF w 1)], hp E w)) hM_39 2 rfl (Ev.fin hM_39 rfl rfl)) ?_
  refine Ev.run (c' := (9, [.ref 2, .int x1, .int x2, .int x3, u4], [.int (gF w 1), .int x3], hp E w)) hM_28 0 rfl ?_
  refine Ev.icF hM_28 rfl (cI_geF c1) ?_
  refine Ev.run (c' := (14, [.ref 2, .int x1, .int x2, .int x3, u4], [.int x3, .ref 2], hp E w)) hM_28 2 rfl ?_
  subst g1
  refine Ev.callR hd hM_28 rfl (y := 43) (as := [.ref 2, .int (I j1)]) (rest := []) rfl (Nat.le_of_ble_eq_true rfl) (nextTo_spec hd2 b1) ?_
  refine Ev.run (c' := (28, [.ref 2, .int x1, .int x2, .int (I j1), .int ((rv 9 (gA w 0) j1) &&& (x1 ^^^ (-1 : Int32)))], [.int (x1 &&& ((1 : Int32) <<< ((I j1) &&& 31)))], hp E w)) hM_28 10 rfl ?_
  refine Ev.ifT hM_28 rfl (cI_eqT c2) ?_
  refine Ev.run (c' := (4, [.ref 2, .int x1, .int x2, .int ((I j1) + (1 : Int32)), .int ((rv 9 (gA w 0) j1) &&& (x1 ^^^ (-1 : Int32)))], [], hp E w)) hM_28 2 rfl ?_
  exact e
theorem p28_4_d {E : Nat × (Nat → Int32)} {w : Wd} {d : Nat} {x1 x2 x3 : Int32} {u4 : Value} {y : Int32} (hd : 1 ≤ d) (c1 : ¬ x3 < (gF w 1)) (q : (x1 ||| x2) = y) : Ev d 28 (4, [.ref 2, .int x1, .int x2, .int x3, u4], [], hp E w) (.inl (some (.int y)), hp E w) := by
  subst q
  refine Ev.run (c' := (6, [.ref 2, .int x1, .int x2, .int x3, u4], [.ref 2, .int x3], hp E w)) hM_28 2 rfl ?_
  refine Ev.callR hd hM_28 rfl (y := 39) (as := [.ref 2]) (rest := [.int x3]) rfl (Nat.le_of_ble_eq_true rfl) (Ev.run (c' := (4, [.ref 2], [.int (gF w 1)], hp E w)) hM_39 2 rfl (Ev.fin hM_39 rfl rfl)) ?_
  refine Ev.run (c' := (9, [.ref 2, .int x1, .int x2, .int x3, u4], [.int (gF w 1), .int x3], hp E w)) hM_28 0 rfl ?_
  refine Ev.icT hM_28 rfl (cI_geT c1) ?_
  refine Ev.run (c' := (54, [.ref 2, .int x1, .int x2, .int x3, u4], [.int (x1 ||| x2)], hp E w)) hM_28 3 rfl ?_
  exact Ev.fin hM_28 rfl rfl
end
