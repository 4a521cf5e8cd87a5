section
theorem hM_120 : mAt 120 = some km_X8_time := rfl
theorem p120_e_a {E : Nat × (Nat → Int32)} {w : Wd} {d : Nat} {x1 x2 x3 : Int32} {w1 : Wd} {v1 : Int32} {w2 : Wd} {v2 : Int32} (hd : 1 ≤ d) (h1 : Ev (d - 1) 119 (ent0 119 [.ref 27, .int x1, .int x2, .int x3] (hp E (sF 8 (0 : Int32) w))) (.inl (some (.int v1)), hp E w1)) (c1 : v1 = 0) (h2 : Ev (d - 1) 97 (ent0 97 [.ref 27, .int (1 : Int32)] (hp E w1)) (.inl (some (.int v2)), hp E w2)) : Ev d 120 (ent0 120 [.ref 27, .int x1, .int x2, .int x3] (hp E w)) (.inl (some (.int v2)), hp E w2) := by
  refine Ev.run (c' := (9, [.ref 27, .int x1, .int x2, .int x3, jk], [.int x3, .int x2, .int x1, .ref 27], hp E (sF 8 (0 : Int32) w))) hM_120 7 rfl ?_
  refine Ev.callR hd hM_120 rfl (y := 119) (as := [.ref 27, .int x1, .int x2, .int x3]) (rest := []) rfl (Nat.le_of_ble_eq_true rfl) h1 ?_
  refine Ev.run (c' := (12, [.ref 27, .int x1, .int x2, .int x3, jk], [.int v1], hp E w1)) hM_120 0 rfl ?_
  refine Ev.ifF hM_120 rfl (cI_neF c1) ?_
  refine Ev.run (c' := (17, [.ref 27, .int x1, .int x2, .int x3, jk], [.int (1 : Int32), .ref 27], hp E w1)) hM_120 2 rfl ?_
  refine Ev.callR hd hM_120 rfl (y := 97) (as := [.ref 27, .int (1 : Int32)]) (rest := []) rfl (Nat.le_of_ble_eq_true rfl) h2 ?_
  refine Ev.run (c' := (20, [.ref 27, .int x1, .int x2, .int x3, jk], [.int v2], hp E w2)) hM_120 0 rfl ?_
  exact Ev.fin hM_120 rfl rfl
theorem p120_e_b {E : Nat × (Nat → Int32)} {w : Wd} {d : Nat} {x1 x2 x3 : Int32} {w1 : Wd} {v1 : Int32} {w2 : Wd} {j1 : Nat} (hd : 1 ≤ d) (h1 : Ev (d - 1) 119 (ent0 119 [.ref 27, .int x1, .int x2, .int x3] (hp E (sF 8 (0 : Int32) w))) (.inl (some (.int v1)), hp E w1)) (c1 : ¬ v1 = 0) (c2 : x2 = (-1 : Int32)) (h2 : Ev (d - 1) 118 (ent0 118 [.ref 27, .int (1 : Int32)] (hp E w1)) (.inl none, hp E w2)) (c3 : x2 = (-1 : Int32)) (g1 : ((((x1 * (10 : Int32)) + (9 : Int32)) * (9 : Int32)) + x3) = I j1) (b1 : j1 < 810) (c4 : (gA w2 15 j1) = (99 : Int32)) : Ev d 120 (ent0 120 [.ref 27, .int x1, .int x2, .int x3] (hp E w)) (.inl (some (.int (-1 : Int32))), hp E w2) := by
  refine Ev.run (c' := (9, [.ref 27, .int x1, .int x2, .int x3, jk], [.int x3, .int x2, .int x1, .ref 27], hp E (sF 8 (0 : Int32) w))) hM_120 7 rfl ?_
  refine Ev.callR hd hM_120 rfl (y := 119) (as := [.ref 27, .int x1, .int x2, .int x3]) (rest := []) rfl (Nat.le_of_ble_eq_true rfl) h1 ?_
  refine Ev.run (c' := (12, [.ref 27, .int x1, .int x2, .int x3, jk], [.int v1], hp E w1)) hM_120 0 rfl ?_
  refine Ev.ifT hM_120 rfl (cI_neT c1) ?_
  refine Ev.run (c' := (24, [.ref 27, .int x1, .int x2, .int x3, jk], [.int (-1 : Int32), .int x2, .ref 27], hp E w1)) hM_120 3 rfl ?_
  refine Ev.icF hM_120 rfl (cI_neF c2) ?_
  refine Ev.run (c' := (32, [.ref 27, .int x1, .int x2, .int x3, jk], [.int (1 : Int32), .ref 27], hp E w1)) hM_120 2 rfl ?_
  refine Ev.callR hd hM_120 rfl (y := 118) (as := [.ref 27, .int (1 : Int32)]) (rest := []) rfl (Nat.le_of_ble_eq_true rfl) h2 ?_
  refine Ev.run (c' := (42, [.ref 27, .int x1, .int x2, .int x3, jk], [.int (-1 : Int32), .int x2, .int x1, .ref 33], hp E w2)) hM_120 5 rfl ?_
  refine Ev.icF hM_120 rfl (cI_neF c3) ?_
  refine Ev.run (c' := (52, [.ref 27, .int x1, .int x2, .int x3, jk], [.int x3, .int (9 : Int32), .int x1, .ref 33], hp E w2)) hM_120 3 rfl ?_
  refine Ev.callR hd hM_120 rfl (y := 113) (as := [.int x1, .int (9 : Int32), .int x3]) (rest := [.ref 33]) rfl (Nat.le_of_ble_eq_true rfl) (place_spec) ?_
  refine Ev.run (c' := (55, [.ref 27, .int x1, .int x2, .int x3, jk], [.int ((((x1 * (10 : Int32)) + (9 : Int32)) * (9 : Int32)) + x3), .ref 33], hp E w2)) hM_120 0 rfl ?_
  rw [g1]
  refine Ev.iald hM_120 rfl (a := 33) rfl (inb_I b1 (by decide)) ?_
  rw [I_clamp (Nat.lt_of_lt_of_le b1 (by decide))]
  refine Ev.run (c' := (62, [.ref 27, .int x1, .int x2, .int x3, .int (gA w2 15 j1)], [.int (99 : Int32), .int (gA w2 15 j1)], hp E w2)) hM_120 3 rfl ?_
  refine Ev.icF hM_120 rfl (cI_neF c4) ?_
  refine Ev.run (c' := (71, [.ref 27, .int x1, .int x2, .int x3, .int (gA w2 15 j1)], [.int (-1 : Int32)], hp E w2)) hM_120 2 rfl ?_
  exact Ev.fin hM_120 rfl rfl
theorem p120_e_c {E : Nat × (Nat → Int32)} {w : Wd} {d : Nat} {x1 x2 x3 : Int32} {w1 : Wd} {v1 : Int32} {w2 : Wd} {j1 : Nat} {y : Int32} (hd : 1 ≤ d) (h1 : Ev (d - 1) 119 (ent0 119 [.ref 27, .int x1, .int x2, .int x3] (hp E (sF 8 (0 : Int32) w))) (.inl (some (.int v1)), hp E w1)) (c1 : ¬ v1 = 0) (c2 : x2 = (-1 : Int32)) (h2 : Ev (d - 1) 118 (ent0 118 [.ref 27, .int (1 : Int32)] (hp E w1)) (.inl none, hp E w2)) (c3 : x2 = (-1 : Int32)) (g1 : ((((x1 * (10 : Int32)) + (9 : Int32)) * (9 : Int32)) + x3) = I j1) (b1 : j1 < 810) (c4 : ¬ (gA w2 15 j1) = (99 : Int32)) (q : (gA w2 15 j1) = y) : Ev d 120 (ent0 120 [.ref 27, .int x1, .int x2, .int x3] (hp E w)) (.inl (some (.int y)), hp E w2) := by
  subst q
  refine Ev.run (c' := (9, [.ref 27, .int x1, .int x2, .int x3, jk], [.int x3, .int x2, .int x1, .ref 27], hp E (sF 8 (0 : Int32) w))) hM_120 7 rfl ?_
  refine Ev.callR hd hM_120 rfl (y := 119) (as := [.ref 27, .int x1, .int x2, .int x3]) (rest := []) rfl (Nat.le_of_ble_eq_true rfl) h1 ?_
  refine Ev.run (c' := (12, [.ref 27, .int x1, .int x2, .int x3, jk], [.int v1], hp E w1)) hM_120 0 rfl ?_
  refine Ev.ifT hM_120 rfl (cI_neT c1) ?_
  refine Ev.run (c' := (24, [.ref 27, .int x1, .int x2, .int x3, jk], [.int (-1 : Int32), .int x2, .ref 27], hp E w1)) hM_120 3 rfl ?_
  refine Ev.icF hM_120 rfl (cI_neF c2) ?_
  refine Ev.run (c' := (32, [.ref 27, .int x1, .int x2, .int x3, jk], [.int (1 : Int32), .ref 27], hp E w1)) hM_120 2 rfl ?_
  refine Ev.callR hd hM_120 rfl (y := 118) (as := [.ref 27, .int (1 : Int32)]) (rest := []) rfl (Nat.le_of_ble_eq_true rfl) h2 ?_
  refine Ev.run (c' := (42, [.ref 27, .int x1, .int x2, .int x3, jk], [.int (-1 : Int32), .int x2, .int x1, .ref 33], hp E w2)) hM_120 5 rfl ?_
  refine Ev.icF hM_120 rfl (cI_neF c3) ?_
  refine Ev.run (c' := (52, [.ref 27, .int x1, .int x2, .int x3, jk], [.int x3, .int (9 : Int32), .int x1, .ref 33], hp E w2)) hM_120 3 rfl ?_
  refine Ev.callR hd hM_120 rfl (y := 113) (as := [.int x1, .int (9 : Int32), .int x3]) (rest := [.ref 33]) rfl (Nat.le_of_ble_eq_true rfl) (place_spec) ?_
  refine Ev.run (c' := (55, [.ref 27, .int x1, .int x2, .int x3, jk], [.int ((((x1 * (10 : Int32)) + (9 : Int32)) * (9 : Int32)) + x3), .ref 33], hp E w2)) hM_120 0 rfl ?_
  rw [g1]
  refine Ev.iald hM_120 rfl (a := 33) rfl (inb_I b1 (by decide)) ?_
  rw [I_clamp (Nat.lt_of_lt_of_le b1 (by decide))]
  refine Ev.run (c' := (62, [.ref 27, .int x1, .int x2, .int x3, .int (gA w2 15 j1)], [.int (99 : Int32), .int (gA w2 15 j1)], hp E w2)) hM_120 3 rfl ?_
  refine Ev.icT hM_120 rfl (cI_neT c4) ?_
  refine Ev.run (c' := (71, [.ref 27, .int x1, .int x2, .int x3, .int (gA w2 15 j1)], [.int (gA w2 15 j1)], hp E w2)) hM_120 1 rfl ?_
  exact Ev.fin hM_120 rfl rfl
theorem p120_e_d {E : Nat × (Nat → Int32)} {w : Wd} {d : Nat} {x1 x2 x3 : Int32} {w1 : Wd} {v1 : Int32} {w2 : Wd} {j1 : Nat} (hd : 1 ≤ d) (h1 : Ev (d - 1) 119 (ent0 119 [.ref 27, .int x1, .int x2, .int x3] (hp E (sF 8 (0 : Int32) w))) (.inl (some (.int v1)), hp E w1)) (c1 : ¬ v1 = 0) (c2 : x2 = (-1 : Int32)) (h2 : Ev (d - 1) 118 (ent0 118 [.ref 27, .int (1 : Int32)] (hp E w1)) (.inl none, hp E w2)) (c3 : ¬ x2 = (-1 : Int32)) (g1 : ((((x1 * (10 : Int32)) + x2) * (9 : Int32)) + x3) = I j1) (b1 : j1 < 810) (c4 : (gA w2 15 j1) = (99 : Int32)) : Ev d 120 (ent0 120 [.ref 27, .int x1, .int x2, .int x3] (hp E w)) (.inl (some (.int (-1 : Int32))), hp E w2) := by
  refine Ev.run (c' := (9, [.ref 27, .int x1, .int x2, .int x3, jk], [.int x3, .int x2, .int x1, .ref 27], hp E (sF 8 (0 : Int32) w))) hM_120 7 rfl ?_
  refine Ev.callR hd hM_120 rfl (y := 119) (as := [.ref 27, .int x1, .int x2, .int x3]) (rest := []) rfl (Nat.le_of_ble_eq_true rfl) h1 ?_
  refine Ev.run (c' := (12, [.ref 27, .int x1, .int x2, .int x3, jk], [.int v1], hp E w1)) hM_120 0 rfl ?_
  refine Ev.ifT hM_120 rfl (cI_neT c1) ?_
  refine Ev.run (c' := (24, [.ref 27, .int x1, .int x2, .int x3, jk], [.int (-1 : Int32), .int x2, .ref 27], hp E w1)) hM_120 3 rfl ?_
  refine Ev.icF hM_120 rfl (cI_neF c2) ?_
  refine Ev.run (c' := (32, [.ref 27, .int x1, .int x2, .int x3, jk], [.int (1 : Int32), .ref 27], hp E w1)) hM_120 2 rfl ?_
  refine Ev.callR hd hM_120 rfl (y := 118) (as := [.ref 27, .int (1 : Int32)]) (rest := []) rfl (Nat.le_of_ble_eq_true rfl) h2 ?_
  refine Ev.run (c' := (42, [.ref 27, .int x1, .int x2, .int x3, jk], [.int (-1 : Int32), .int x2, .int x1, .ref 33], hp E w2)) hM_120 5 rfl ?_
  refine Ev.icT hM_120 rfl (cI_neT c3) ?_
  refine Ev.run (c' := (52, [.ref 27, .int x1, .int x2, .int x3, jk], [.int x3, .int x2, .int x1, .ref 33], hp E w2)) hM_120 2 rfl ?_
  refine Ev.callR hd hM_120 rfl (y := 113) (as := [.int x1, .int x2, .int x3]) (rest := [.ref 33]) rfl (Nat.le_of_ble_eq_true rfl) (place_spec) ?_
  refine Ev.run (c' := (55, [.ref 27, .int x1, .int x2, .int x3, jk], [.int ((((x1 * (10 : Int32)) + x2) * (9 : Int32)) + x3), .ref 33], hp E w2)) hM_120 0 rfl ?_
  rw [g1]
  refine Ev.iald hM_120 rfl (a := 33) rfl (inb_I b1 (by decide)) ?_
  rw [I_clamp (Nat.lt_of_lt_of_le b1 (by decide))]
  refine Ev.run (c' := (62, [.ref 27, .int x1, .int x2, .int x3, .int (gA w2 15 j1)], [.int (99 : Int32), .int (gA w2 15 j1)], hp E w2)) hM_120 3 rfl ?_
  refine Ev.icF hM_120 rfl (cI_neF c4) ?_
  refine Ev.run (c' := (71, [.ref 27, .int x1, .int x2, .int x3, .int (gA w2 15 j1)], [.int (-1 : Int32)], hp E w2)) hM_120 2 rfl ?_
  exact Ev.fin hM_120 rfl rfl
theorem p120_e_e {E : Nat × (Nat → Int32)} {w : Wd} {d : Nat} {x1 x2 x3 : Int32} {w1 : Wd} {v1 : Int32} {w2 : Wd} {j1 : Nat} {y : Int32} (hd : 1 ≤ d) (h1 : Ev (d - 1) 119 (ent0 119 [.ref 27, .int x1, .int x2, .int x3] (hp E (sF 8 (0 : Int32) w))) (.inl (some (.int v1)), hp E w1)) (c1 : ¬ v1 = 0) (c2 : x2 = (-1 : Int32)) (h2 : Ev (d - 1) 118 (ent0 118 [.ref 27, .int (1 : Int32)] (hp E w1)) (.inl none, hp E w2)) (c3 : ¬ x2 = (-1 : Int32)) (g1 : ((((x1 * (10 : Int32)) + x2) * (9 : Int32)) + x3) = I j1) (b1 : j1 < 810) (c4 : ¬ (gA w2 15 j1) = (99 : Int32)) (q : (gA w2 15 j1) = y) : Ev d 120 (ent0 120 [.ref 27, .int x1, .int x2, .int x3] (hp E w)) (.inl (some (.int y)), hp E w2) := by
  subst q
  refine Ev.run (c' := (9, [.ref 27, .int x1, .int x2, .int x3, jk], [.int x3, .int x2, .int x1, .ref 27], hp E (sF 8 (0 : Int32) w))) hM_120 7 rfl ?_
  refine Ev.callR hd hM_120 rfl (y := 119) (as := [.ref 27, .int x1, .int x2, .int x3]) (rest := []) rfl (Nat.le_of_ble_eq_true rfl) h1 ?_
  refine Ev.run (c' := (12, [.ref 27, .int x1, .int x2, .int x3, jk], [.int v1], hp E w1)) hM_120 0 rfl ?_
  refine Ev.ifT hM_120 rfl (cI_neT c1) ?_
  refine Ev.run (c' := (24, [.ref 27, .int x1, .int x2, .int x3, jk], [.int (-1 : Int32), .int x2, .ref 27], hp E w1)) hM_120 3 rfl ?_
  refine Ev.icF hM_120 rfl (cI_neF c2) ?_
  refine Ev.run (c' := (32, [.ref 27, .int x1, .int x2, .int x3, jk], [.int (1 : Int32), .ref 27], hp E w1)) hM_120 2 rfl ?_
  refine Ev.callR hd hM_120 rfl (y := 118) (as := [.ref 27, .int (1 : Int32)]) (rest := []) rfl (Nat.le_of_ble_eq_true rfl) h2 ?_
  refine Ev.run (c' := (42, [.ref 27, .int x1, .int x2, .int x3, jk], [.int (-1 : Int32), .int x2, .int x1, .ref 33], hp E w2)) hM_120 5 rfl ?_
  refine Ev.icT hM_120 rfl (cI_neT c3) ?_
  refine Ev.run (c' := (52, [.ref 27, .int x1, .int x2, .int x3, jk], [.int x3, .int x2, .int x1, .ref 33], hp E w2)) hM_120 2 rfl ?_
  refine Ev.callR hd hM_120 rfl (y := 113) (as := [.int x1, .int x2, .int x3]) (rest := [.ref 33]) rfl (Nat.le_of_ble_eq_true rfl) (place_spec) ?_
  refine Ev.run (c' := (55, [.ref 27, .int x1, .int x2, .int x3, jk], [.int ((((x1 * (10 : Int32)) + x2) * (9 : Int32)) + x3), .ref 33], hp E w2)) hM_120 0 rfl ?_
  rw [g1]
  refine Ev.iald hM_120 rfl (a := 33) rfl (inb_I b1 (by decide)) ?_
  rw [I_clamp (Nat.lt_of_lt_of_le b1 (by decide))]
  refine Ev.run (c' := (62, [.ref 27, .int x1, .int x2, .int x3, .int (gA w2 15 j1)], [.int (99 : Int32), .int (gA w2 15 j1)], hp E w2)) hM_120 3 rfl ?_
  refine Ev.icT hM_120 rfl (cI_neT c4) ?_
  refine Ev.run (c' := (71, [.ref 27, .int x1, .int x2, .int x3, .int (gA w2 15 j1)], [.int (gA w2 15 j1)], hp E w2)) hM_120 1 rfl ?_
  exact Ev.fin hM_120 rfl rfl
theorem p120_e_f {E : Nat × (Nat → Int32)} {w : Wd} {d : Nat} {x1 x2 x3 : Int32} {w1 : Wd} {v1 : Int32} {w2 : Wd} {j1 : Nat} (hd : 1 ≤ d) (h1 : Ev (d - 1) 119 (ent0 119 [.ref 27, .int x1, .int x2, .int x3] (hp E (sF 8 (0 : Int32) w))) (.inl (some (.int v1)), hp E w1)) (c1 : ¬ v1 = 0) (c2 : ¬ x2 = (-1 : Int32)) (h2 : Ev (d - 1) 118 (ent0 118 [.ref 27, .int (0 : Int32)] (hp E w1)) (.inl none, hp E w2)) (c3 : x2 = (-1 : Int32)) (g1 : ((((x1 * (10 : Int32)) + (9 : Int32)) * (9 : Int32)) + x3) = I j1) (b1 : j1 < 810) (c4 : (gA w2 15 j1) = (99 : Int32)) : Ev d 120 (ent0 120 [.ref 27, .int x1, .int x2, .int x3] (hp E w)) (.inl (some (.int (-1 : Int32))), hp E w2) := by
  refine Ev.run (c' := (9, [.ref 27, .int x1, .int x2, .int x3, jk], [.int x3, .int x2, .int x1, .ref 27], hp E (sF 8 (0 : Int32) w))) hM_120 7 rfl ?_
  refine Ev.callR hd hM_120 rfl (y := 119) (as := [.ref 27, .int x1, .int x2, .int x3]) (rest := []) rfl (Nat.le_of_ble_eq_true rfl) h1 ?_
  refine Ev.run (c' := (12, [.ref 27, .int x1, .int x2, .int x3, jk], [.int v1], hp E w1)) hM_120 0 rfl ?_
  refine Ev.ifT hM_120 rfl (cI_neT c1) ?_
  refine Ev.run (c' := (24, [.ref 27, .int x1, .int x2, .int x3, jk], [.int (-1 : Int32), .int x2, .ref 27], hp E w1)) hM_120 3 rfl ?_
  refine Ev.icT hM_120 rfl (cI_neT c2) ?_
  refine Ev.run (c' := (32, [.ref 27, .int x1, .int x2, .int x3, jk], [.int (0 : Int32), .ref 27], hp E w1)) hM_120 1 rfl ?_
  refine Ev.callR hd hM_120 rfl (y := 118) (as := [.ref 27, .int (0 : Int32)]) (rest := []) rfl (Nat.le_of_ble_eq_true rfl) h2 ?_
  refine Ev.run (c' := (42, [.ref 27, .int x1, .int x2, .int x3, jk], [.int (-1 : Int32), .int x2, .int x1, .ref 33], hp E w2)) hM_120 5 rfl ?_
  refine Ev.icF hM_120 rfl (cI_neF c3) ?_
  refine Ev.run (c' := (52, [.ref 27, .int x1, .int x2, .int x3, jk], [.int x3, .int (9 : Int32), .int x1, .ref 33], hp E w2)) hM_120 3 rfl ?_
  refine Ev.callR hd hM_120 rfl (y := 113) (as := [.int x1, .int (9 : Int32), .int x3]) (rest := [.ref 33]) rfl (Nat.le_of_ble_eq_true rfl) (place_spec) ?_
  refine Ev.run (c' := (55, [.ref 27, .int x1, .int x2, .int x3, jk], [.int ((((x1 * (10 : Int32)) + (9 : Int32)) * (9 : Int32)) + x3), .ref 33], hp E w2)) hM_120 0 rfl ?_
  rw [g1]
  refine Ev.iald hM_120 rfl (a := 33) rfl (inb_I b1 (by decide)) ?_
  rw [I_clamp (Nat.lt_of_lt_of_le b1 (by decide))]
  refine Ev.run (c' := (62, [.ref 27, .int x1, .int x2, .int x3, .int (gA w2 15 j1)], [.int (99 : Int32), .int (gA w2 15 j1)], hp E w2)) hM_120 3 rfl ?_
  refine Ev.icF hM_120 rfl (cI_neF c4) ?_
  refine Ev.run (c' := (71, [.ref 27, .int x1, .int x2, .int x3, .int (gA w2 15 j1)], [.int (-1 : Int32)], hp E w2)) hM_120 2 rfl ?_
  exact Ev.fin hM_120 rfl rfl
theorem p120_e_g {E : Nat × (Nat → Int32)} {w : Wd} {d : Nat} {x1 x2 x3 : Int32} {w1 : Wd} {v1 : Int32} {w2 : Wd} {j1 : Nat} {y : Int32} (hd : 1 ≤ d) (h1 : Ev (d - 1) 119 (ent0 119 [.ref 27, .int x1, .int x2, .int x3] (hp E (sF 8 (0 : Int32) w))) (.inl (some (.int v1)), hp E w1)) (c1 : ¬ v1 = 0) (c2 : ¬ x2 = (-1 : Int32)) (h2 : Ev (d - 1) 118 (ent0 118 [.ref 27, .int (0 : Int32)] (hp E w1)) (.inl none, hp E w2)) (c3 : x2 = (-1 : Int32)) (g1 : ((((x1 * (10 : Int32)) + (9 : Int32)) * (9 : Int32)) + x3) = I j1) (b1 : j1 < 810) (c4 : ¬ (gA w2 15 j1) = (99 : Int32)) (q : (gA w2 15 j1) = y) : Ev d 120 (ent0 120 [.ref 27, .int x1, .int x2, .int x3] (hp E w)) (.inl (some (.int y)), hp E w2) := by
  subst q
  refine Ev.run (c' := (9, [.ref 27, .int x1, .int x2, .int x3, jk], [.int x3, .int x2, .int x1, .ref 27], hp E (sF 8 (0 : Int32) w))) hM_120 7 rfl ?_
  refine Ev.callR hd hM_120 rfl (y := 119) (as := [.ref 27, .int x1, .int x2, .int x3]) (rest := []) rfl (Nat.le_of_ble_eq_true rfl) h1 ?_
  refine Ev.run (c' := (12, [.ref 27, .int x1, .int x2, .int x3, jk], [.int v1], hp E w1)) hM_120 0 rfl ?_
  refine Ev.ifT hM_120 rfl (cI_neT c1) ?_
  refine Ev.run (c' := (24, [.ref 27, .int x1, .int x2, .int x3, jk], [.int (-1 : Int32), .int x2, .ref 27], hp E w1)) hM_120 3 rfl ?_
  refine Ev.icT hM_120 rfl (cI_neT c2) ?_
  refine Ev.run (c' := (32, [.ref 27, .int x1, .int x2, .int x3, jk], [.int (0 : Int32), .ref 27], hp E w1)) hM_120 1 rfl ?_
  refine Ev.callR hd hM_120 rfl (y := 118) (as := [.ref 27, .int (0 : Int32)]) (rest := []) rfl (Nat.le_of_ble_eq_true rfl) h2 ?_
  refine Ev.run (c' := (42, [.ref 27, .int x1, .int x2, .int x3, jk], [.int (-1 : Int32), .int x2, .int x1, .ref 33], hp E w2)) hM_120 5 rfl ?_
  refine Ev.icF hM_120 rfl (cI_neF c3) ?_
  refine Ev.run (c' := (52, [.ref 27, .int x1, .int x2, .int x3, jk], [.int x3, .int (9 : Int32), .int x1, .ref 33], hp E w2)) hM_120 3 rfl ?_
  refine Ev.callR hd hM_120 rfl (y := 113) (as := [.int x1, .int (9 : Int32), .int x3]) (rest := [.ref 33]) rfl (Nat.le_of_ble_eq_true rfl) (place_spec) ?_
  refine Ev.run (c' := (55, [.ref 27, .int x1, .int x2, .int x3, jk], [.int ((((x1 * (10 : Int32)) + (9 : Int32)) * (9 : Int32)) + x3), .ref 33], hp E w2)) hM_120 0 rfl ?_
  rw [g1]
  refine Ev.iald hM_120 rfl (a := 33) rfl (inb_I b1 (by decide)) ?_
  rw [I_clamp (Nat.lt_of_lt_of_le b1 (by decide))]
  refine Ev.run (c' := (62, [.ref 27, .int x1, .int x2, .int x3, .int (gA w2 15 j1)], [.int (99 : Int32), .int (gA w2 15 j1)], hp E w2)) hM_120 3 rfl ?_
  refine Ev.icT hM_120 rfl (cI_neT c4) ?_
  refine Ev.run (c' := (71, [.ref 27, .int x1, .int x2, .int x3, .int (gA w2 15 j1)], [.int (gA w2 15 j1)], hp E w2)) hM_120 1 rfl ?_
  exact Ev.fin hM_120 rfl rfl
theorem p120_e_h {E : Nat × (Nat → Int32)} {w : Wd} {d : Nat} {x1 x2 x3 : Int32} {w1 : Wd} {v1 : Int32} {w2 : Wd} {j1 : Nat} (hd : 1 ≤ d) (h1 : Ev (d - 1) 119 (ent0 119 [.ref 27, .int x1, .int x2, .int x3] (hp E (sF 8 (0 : Int32) w))) (.inl (some (.int v1)), hp E w1)) (c1 : ¬ v1 = 0) (c2 : ¬ x2 = (-1 : Int32)) (h2 : Ev (d - 1) 118 (ent0 118 [.ref 27, .int (0 : Int32)] (hp E w1)) (.inl none, hp E w2)) (c3 : ¬ x2 = (-1 : Int32)) (g1 : ((((x1 * (10 : Int32)) + x2) * (9 : Int32)) + x3) = I j1) (b1 : j1 < 810) (c4 : (gA w2 15 j1) = (99 : Int32)) : Ev d 120 (ent0 120 [.ref 27, .int x1, .int x2, .int x3] (hp E w)) (.inl (some (.int (-1 : Int32))), hp E w2) := by
  refine Ev.run (c' := (9, [.ref 27, .int x1, .int x2, .int x3, jk], [.int x3, .int x2, .int x1, .ref 27], hp E (sF 8 (0 : Int32) w))) hM_120 7 rfl ?_
  refine Ev.callR hd hM_120 rfl (y := 119) (as := [.ref 27, .int x1, .int x2, .int x3]) (rest := []) rfl (Nat.le_of_ble_eq_true rfl) h1 ?_
  refine Ev.run (c' := (12, [.ref 27, .int x1, .int x2, .int x3, jk], [.int v1], hp E w1)) hM_120 0 rfl ?_
  refine Ev.ifT hM_120 rfl (cI_neT c1) ?_
  refine Ev.run (c' := (24, [.ref 27, .int x1, .int x2, .int x3, jk], [.int (-1 : Int32), .int x2, .ref 27], hp E w1)) hM_120 3 rfl ?_
  refine Ev.icT hM_120 rfl (cI_neT c2) ?_
  refine Ev.run (c' := (32, [.ref 27, .int x1, .int x2, .int x3, jk], [.int (0 : Int32), .ref 27], hp E w1)) hM_120 1 rfl ?_
  refine Ev.callR hd hM_120 rfl (y := 118) (as := [.ref 27, .int (0 : Int32)]) (rest := []) rfl (Nat.le_of_ble_eq_true rfl) h2 ?_
  refine Ev.run (c' := (42, [.ref 27, .int x1, .int x2, .int x3, jk], [.int (-1 : Int32), .int x2, .int x1, .ref 33], hp E w2)) hM_120 5 rfl ?_
  refine Ev.icT hM_120 rfl (cI_neT c3) ?_
  refine Ev.run (c' := (52, [.ref 27, .int x1, .int x2, .int x3, jk], [.int x3, .int x2, .int x1, .ref 33], hp E w2)) hM_120 2 rfl ?_
  refine Ev.callR hd hM_120 rfl (y := 113) (as := [.int x1, .int x2, .int x3]) (rest := [.ref 33]) rfl (Nat.le_of_ble_eq_true rfl) (place_spec) ?_
  refine Ev.run (c' := (55, [.ref 27, .int x1, .int x2, .int x3, jk], [.int ((((x1 * (10 : Int32)) + x2) * (9 : Int32)) + x3), .ref 33], hp E w2)) hM_120 0 rfl ?_
  rw [g1]
  refine Ev.iald hM_120 rfl (a := 33) rfl (inb_I b1 (by decide)) ?_
  rw [I_clamp (Nat.lt_of_lt_of_le b1 (by decide))]
  refine Ev.run (c' := (62, [.ref 27, .int x1, .int x2, .int x3, .int (gA w2 15 j1)], [.int (99 : Int32), .int (gA w2 15 j1)], hp E w2)) hM_120 3 rfl ?_
  refine Ev.icF hM_120 rfl (cI_neF c4) ?_
  refine Ev.run (c' := (71, [.ref 27, .int x1, .int x2, .int x3, .int (gA w2 15 j1)], [.int (-1 : Int32)], hp E w2)) hM_120 2 rfl ?_
  exact Ev.fin hM_120 rfl rfl
theorem p120_e_i {E : Nat × (Nat → Int32)} {w : Wd} {d : Nat} {x1 x2 x3 : Int32} {w1 : Wd} {v1 : Int32} {w2 : Wd} {j1 : Nat} {y : Int32} (hd : 1 ≤ d) (h1 : Ev (d - 1) 119 (ent0 119 [.ref 27, .int x1, .int x2, .int x3] (hp E (sF 8 (0 : Int32) w))) (.inl (some (.int v1)), hp E w1)) (c1 : ¬ v1 = 0) (c2 : ¬ x2 = (-1 : Int32)) (h2 : Ev (d - 1) 118 (ent0 118 [.ref 27, .int (0 : Int32)] (hp E w1)) (.inl none, hp E w2)) (c3 : ¬ x2 = (-1 : Int32)) (g1 : ((((x1 * (10 : Int32)) + x2) * (9 : Int32)) + x3) = I j1) (b1 : j1 < 810) (c4 : ¬ (gA w2 15 j1) = (99 : Int32)) (q : (gA w2 15 j1) = y) : Ev d 120 (ent0 120 [.ref 27, .int x1, .int x2, .int x3] (hp E w)) (.inl (some (.int y)), hp E w2) := by
  subst q
  refine Ev.run (c' := (9, [.ref 27, .int x1, .int x2, .int x3, jk], [.int x3, .int x2, .int x1, .ref 27], hp E (sF 8 (0 : Int32) w))) hM_120 7 rfl ?_
  refine Ev.callR hd hM_120 rfl (y := 119) (as := [.ref 27, .int x1, .int x2, .int x3]) (rest := []) rfl (Nat.le_of_ble_eq_true rfl) h1 ?_
  refine Ev.run (c' := (12, [.ref 27, .int x1, .int x2, .int x3, jk], [.int v1], hp E w1)) hM_120 0 rfl ?_
  refine Ev.ifT hM_120 rfl (cI_neT c1) ?_
  refine Ev.run (c' := (24, [.ref 27, .int x1, .int x2, .int x3, jk], [.int (-1 : Int32), .int x2, .ref 27], hp E w1)) hM_120 3 rfl ?_
  refine Ev.icT hM_120 rfl (cI_neT c2) ?_
  refine Ev.run (c' := (32, [.ref 27, .int x1, .int x2, .int x3, jk], [.int (0 : Int32), .ref 27], hp E w1)) hM_120 1 rfl ?_
  refine Ev.callR hd hM_120 rfl (y := 118) (as := [.ref 27, .int (0 : Int32)]) (rest := []) rfl (Nat.le_of_ble_eq_true rfl) h2 ?_
  refine Ev.run (c' := (42, [.ref 27, .int x1, .int x2, .int x3, jk], [.int (-1 : Int32), .int x2, .int x1, .ref 33], hp E w2)) hM_120 5 rfl ?_
  refine Ev.icT hM_120 rfl (cI_neT c3) ?_
  refine Ev.run (c' := (52, [.ref 27, .int x1, .int x2, .int x3, jk], [.int x3, .int x2, .int x1, .ref 33], hp E w2)) hM_120 2 rfl ?_
  refine Ev.callR hd hM_120 rfl (y := 113) (as := [.int x1, .int x2, .int x3]) (rest := [.ref 33]) rfl (Nat.le_of_ble_eq_true rfl) (place_spec) ?_
  refine Ev.run (c' := (55, [.ref 27, .int x1, .int x2, .int x3, jk], [.int ((((x1 * (10 : Int32)) + x2) * (9 : Int32)) + x3), .ref 33], hp E w2)) hM_120 0 rfl ?_
  rw [g1]
  refine Ev.iald hM_120 rfl (a := 33) rfl (inb_I b1 (by decide)) ?_
  rw [I_clamp (Nat.lt_of_lt_of_le b1 (by decide))]
  refine Ev.run (c' := (62, [.ref 27, .int x1, .int x2, .int x3, .int (gA w2 15 j1)], [.int (99 : Int32), .int (gA w2 15 j1)], hp E w2)) hM_120 3 rfl ?_
  refine Ev.icT hM_120 rfl (cI_neT c4) ?_
  refine Ev.run (c' := (71, [.ref 27, .int x1, .int x2, .int x3, .int (gA w2 15 j1)], [.int (gA w2 15 j1)], hp E w2)) hM_120 1 rfl ?_
  exact Ev.fin hM_120 rfl rfl
theorem hM_121 : mAt 121 = some km_X8_timeAnew := rfl
theorem p121_e_a {E : Nat × (Nat → Int32)} {w : Wd} {d : Nat} {x1 x2 x3 x4 : Int32} {w1 : Wd} {v1 : Int32} {w2 : Wd} {v2 : Int32} (hd : 1 ≤ d) (h1 : Ev (d - 1) 119 (ent0 119 [.ref 27, .int x1, .int x2, .int x3] (hp E (sF 8 (0 : Int32) w))) (.inl (some (.int v1)), hp E w1)) (c1 : v1 = 0) (h2 : Ev (d - 1) 97 (ent0 97 [.ref 27, .int (1 : Int32)] (hp E w1)) (.inl (some (.int v2)), hp E w2)) : Ev d 121 (ent0 121 [.ref 27, .int x1, .int x2, .int x3, .int x4] (hp E w)) (.inl (some (.int v2)), hp E w2) := by
  refine Ev.run (c' := (9, [.ref 27, .int x1, .int x2, .int x3, .int x4, jk], [.int x3, .int x2, .int x1, .ref 27], hp E (sF 8 (0 : Int32) w))) hM_121 7 rfl ?_
  refine Ev.callR hd hM_121 rfl (y := 119) (as := [.ref 27, .int x1, .int x2, .int x3]) (rest := []) rfl (Nat.le_of_ble_eq_true rfl) h1 ?_
  refine Ev.run (c' := (12, [.ref 27, .int x1, .int x2, .int x3, .int x4, jk], [.int v1], hp E w1)) hM_121 0 rfl ?_
  refine Ev.ifF hM_121 rfl (cI_neF c1) ?_
  refine Ev.run (c' := (17, [.ref 27, .int x1, .int x2, .int x3, .int x4, jk], [.int (1 : Int32), .ref 27], hp E w1)) hM_121 2 rfl ?_
  refine Ev.callR hd hM_121 rfl (y := 97) (as := [.ref 27, .int (1 : Int32)]) (rest := []) rfl (Nat.le_of_ble_eq_true rfl) h2 ?_
  refine Ev.run (c' := (20, [.ref 27, .int x1, .int x2, .int x3, .int x4, jk], [.int v2], hp E w2)) hM_121 0 rfl ?_
  exact Ev.fin hM_121 rfl rfl
theorem p121_e_b {E : Nat × (Nat → Int32)} {w : Wd} {d : Nat} {x1 x2 x3 x4 : Int32} {w1 : Wd} {v1 : Int32} {w2 : Wd} {v2 : Int32} (hd : 1 ≤ d) (h1 : Ev (d - 1) 119 (ent0 119 [.ref 27, .int x1, .int x2, .int x3] (hp E (sF 8 (0 : Int32) w))) (.inl (some (.int v1)), hp E w1)) (c1 : ¬ v1 = 0) (c2 : ¬ x4 < 0) (c3 : (3 : Int32) < x4) (h2 : Ev (d - 1) 97 (ent0 97 [.ref 27, .int (2 : Int32)] (hp E w1)) (.inl (some (.int v2)), hp E w2)) : Ev d 121 (ent0 121 [.ref 27, .int x1, .int x2, .int x3, .int x4] (hp E w)) (.inl (some (.int v2)), hp E w2) := by
  refine Ev.run (c' := (9, [.ref 27, .int x1, .int x2, .int x3, .int x4, jk], [.int x3, .int x2, .int x1, .ref 27], hp E (sF 8 (0 : Int32) w))) hM_121 7 rfl ?_
  refine Ev.callR hd hM_121 rfl (y := 119) (as := [.ref 27, .int x1, .int x2, .int x3]) (rest := []) rfl (Nat.le_of_ble_eq_true rfl) h1 ?_
  refine Ev.run (c' := (12, [.ref 27, .int x1, .int x2, .int x3, .int x4, jk], [.int v1], hp E w1)) hM_121 0 rfl ?_
  refine Ev.ifT hM_121 rfl (cI_neT c1) ?_
  refine Ev.run (c' := (23, [.ref 27, .int x1, .int x2, .int x3, .int x4, jk], [.int x4], hp E w1)) hM_121 1 rfl ?_
  refine Ev.ifF hM_121 rfl (cI_ltF c2) ?_
  refine Ev.run (c' := (29, [.ref 27, .int x1, .int x2, .int x3, .int x4, jk], [.int (3 : Int32), .int x4], hp E w1)) hM_121 2 rfl ?_
  refine Ev.icF hM_121 rfl (cI_leF c3) ?_
  refine Ev.run (c' := (34, [.ref 27, .int x1, .int x2, .int x3, .int x4, jk], [.int (2 : Int32), .ref 27], hp E w1)) hM_121 2 rfl ?_
  refine Ev.callR hd hM_121 rfl (y := 97) (as := [.ref 27, .int (2 : Int32)]) (rest := []) rfl (Nat.le_of_ble_eq_true rfl) h2 ?_
  refine Ev.run (c' := (37, [.ref 27, .int x1, .int x2, .int x3, .int x4, jk], [.int v2], hp E w2)) hM_121 0 rfl ?_
  exact Ev.fin hM_121 rfl rfl
theorem p121_e_c {E : Nat × (Nat → Int32)} {w : Wd} {d : Nat} {x1 x2 x3 x4 : Int32} {w1 : Wd} {v1 : Int32} {w2 : Wd} {j1 : Nat} (hd : 1 ≤ d) (h1 : Ev (d - 1) 119 (ent0 119 [.ref 27, .int x1, .int x2, .int x3] (hp E (sF 8 (0 : Int32) w))) (.inl (some (.int v1)), hp E w1)) (c1 : ¬ v1 = 0) (c2 : ¬ x4 < 0) (c3 : ¬ (3 : Int32) < x4) (c4 : x2 = (-1 : Int32)) (h2 : Ev (d - 1) 118 (ent0 118 [.ref 27, .int (1 : Int32)] (hp E w1)) (.inl none, hp E w2)) (c5 : x2 = (-1 : Int32)) (g1 : ((((x1 * (10 : Int32)) + (9 : Int32)) * (9 : Int32)) + x3) = I j1) (b1 : j1 < 810) (c6 : x4 < (gA w2 15 j1)) : Ev d 121 (ent0 121 [.ref 27, .int x1, .int x2, .int x3, .int x4] (hp E w)) (.inl (some (.int (-1 : Int32))), hp E w2) := by
  refine Ev.run (c' := (9, [.ref 27, .int x1, .int x2, .int x3, .int x4, jk], [.int x3, .int x2, .int x1, .ref 27], hp E (sF 8 (0 : Int32) w))) hM_121 7 rfl ?_
  refine Ev.callR hd hM_121 rfl (y := 119) (as := [.ref 27, .int x1, .int x2, .int x3]) (rest := []) rfl (Nat.le_of_ble_eq_true rfl) h1 ?_
  refine Ev.run (c' := (12, [.ref 27, .int x1, .int x2, .int x3, .int x4, jk], [.int v1], hp E w1)) hM_121 0 rfl ?_
  refine Ev.ifT hM_121 rfl (cI_neT c1) ?_
  refine Ev.run (c' := (23, [.ref 27, .int x1, .int x2, .int x3, .int x4, jk], [.int x4], hp E w1)) hM_121 1 rfl ?_
  refine Ev.ifF hM_121 rfl (cI_ltF c2) ?_
  refine Ev.run (c' := (29, [.ref 27, .int x1, .int x2, .int x3, .int x4, jk], [.int (3 : Int32), .int x4], hp E w1)) hM_121 2 rfl ?_
  refine Ev.icT hM_121 rfl (cI_leT c3) ?_
  refine Ev.run (c' := (41, [.ref 27, .int x1, .int x2, .int x3, .int x4, jk], [.int (-1 : Int32), .int x2, .ref 27], hp E w1)) hM_121 3 rfl ?_
  refine Ev.icF hM_121 rfl (cI_neF c4) ?_
  refine Ev.run (c' := (49, [.ref 27, .int x1, .int x2, .int x3, .int x4, jk], [.int (1 : Int32), .ref 27], hp E w1)) hM_121 2 rfl ?_
  refine Ev.callR hd hM_121 rfl (y := 118) (as := [.ref 27, .int (1 : Int32)]) (rest := []) rfl (Nat.le_of_ble_eq_true rfl) h2 ?_
  refine Ev.run (c' := (59, [.ref 27, .int x1, .int x2, .int x3, .int x4, jk], [.int (-1 : Int32), .int x2, .int x1, .ref 33], hp E w2)) hM_121 5 rfl ?_
  refine Ev.icF hM_121 rfl (cI_neF c5) ?_
  refine Ev.run (c' := (69, [.ref 27, .int x1, .int x2, .int x3, .int x4, jk], [.int x3, .int (9 : Int32), .int x1, .ref 33], hp E w2)) hM_121 3 rfl ?_
  refine Ev.callR hd hM_121 rfl (y := 113) (as := [.int x1, .int (9 : Int32), .int x3]) (rest := [.ref 33]) rfl (Nat.le_of_ble_eq_true rfl) (place_spec) ?_
  refine Ev.run (c' := (72, [.ref 27, .int x1, .int x2, .int x3, .int x4, jk], [.int ((((x1 * (10 : Int32)) + (9 : Int32)) * (9 : Int32)) + x3), .ref 33], hp E w2)) hM_121 0 rfl ?_
  rw [g1]
  refine Ev.iald hM_121 rfl (a := 33) rfl (inb_I b1 (by decide)) ?_
  rw [I_clamp (Nat.lt_of_lt_of_le b1 (by decide))]
  refine Ev.run (c' := (79, [.ref 27, .int x1, .int x2, .int x3, .int x4, .int (gA w2 15 j1)], [.int x4, .int (gA w2 15 j1)], hp E w2)) hM_121 3 rfl ?_
  refine Ev.icF hM_121 rfl (cI_leF c6) ?_
  refine Ev.run (c' := (88, [.ref 27, .int x1, .int x2, .int x3, .int x4, .int (gA w2 15 j1)], [.int (-1 : Int32)], hp E w2)) hM_121 2 rfl ?_
  exact Ev.fin hM_121 rfl rfl
theorem p121_e_d {E : Nat × (Nat → Int32)} {w : Wd} {d : Nat} {x1 x2 x3 x4 : Int32} {w1 : Wd} {v1 : Int32} {w2 : Wd} {j1 : Nat} {y : Int32} (hd : 1 ≤ d) (h1 : Ev (d - 1) 119 (ent0 119 [.ref 27, .int x1, .int x2, .int x3] (hp E (sF 8 (0 : Int32) w))) (.inl (some (.int v1)), hp E w1)) (c1 : ¬ v1 = 0) (c2 : ¬ x4 < 0) (c3 : ¬ (3 : Int32) < x4) (c4 : x2 = (-1 : Int32)) (h2 : Ev (d - 1) 118 (ent0 118 [.ref 27, .int (1 : Int32)] (hp E w1)) (.inl none, hp E w2)) (c5 : x2 = (-1 : Int32)) (g1 : ((((x1 * (10 : Int32)) + (9 : Int32)) * (9 : Int32)) + x3) = I j1) (b1 : j1 < 810) (c6 : ¬ x4 < (gA w2 15 j1)) (q : (gA w2 15 j1) = y) : Ev d 121 (ent0 121 [.ref 27, .int x1, .int x2, .int x3, .int x4] (hp E w)) (.inl (some (.int y)), hp E w2) := by
  subst q
  refine Ev.run (c' := (9, [.ref 27, .int x1, .int x2, .int x3, .int x4, jk], [.int x3, .int x2, .int x1, .ref 27], hp E (sF 8 (0 : Int32) w))) hM_121 7 rfl ?_
  refine Ev.callR hd hM_121 rfl (y := 119) (as := [.ref 27, .int x1, .int x2, .int x3]) (rest := []) rfl (Nat.le_of_ble_eq_true rfl) h1 ?_
  refine Ev.run (c' := (12, [.ref 27, .int x1, .int x2, .int x3, .int x4, jk], [.int v1], hp E w1)) hM_121 0 rfl ?_
  refine Ev.ifT hM_121 rfl (cI_neT c1) ?_
  refine Ev.run (c' := (23, [.ref 27, .int x1, .int x2, .int x3, .int x4, jk], [.int x4], hp E w1)) hM_121 1 rfl ?_
  refine Ev.ifF hM_121 rfl (cI_ltF c2) ?_
  refine Ev.run (c' := (29, [.ref 27, .int x1, .int x2, .int x3, .int x4, jk], [.int (3 : Int32), .int x4], hp E w1)) hM_121 2 rfl ?_
  refine Ev.icT hM_121 rfl (cI_leT c3) ?_
  refine Ev.run (c' := (41, [.ref 27, .int x1, .int x2, .int x3, .int x4, jk], [.int (-1 : Int32), .int x2, .ref 27], hp E w1)) hM_121 3 rfl ?_
  refine Ev.icF hM_121 rfl (cI_neF c4) ?_
  refine Ev.run (c' := (49, [.ref 27, .int x1, .int x2, .int x3, .int x4, jk], [.int (1 : Int32), .ref 27], hp E w1)) hM_121 2 rfl ?_
  refine Ev.callR hd hM_121 rfl (y := 118) (as := [.ref 27, .int (1 : Int32)]) (rest := []) rfl (Nat.le_of_ble_eq_true rfl) h2 ?_
  refine Ev.run (c' := (59, [.ref 27, .int x1, .int x2, .int x3, .int x4, jk], [.int (-1 : Int32), .int x2, .int x1, .ref 33], hp E w2)) hM_121 5 rfl ?_
  refine Ev.icF hM_121 rfl (cI_neF c5) ?_
  refine Ev.run (c' := (69, [.ref 27, .int x1, .int x2, .int x3, .int x4, jk], [.int x3, .int (9 : Int32), .int x1, .ref 33], hp E w2)) hM_121 3 rfl ?_
  refine Ev.callR hd hM_121 rfl (y := 113) (as := [.int x1, .int (9 : Int32), .int x3]) (rest := [.ref 33]) rfl (Nat.le_of_ble_eq_true rfl) (place_spec) ?_
  refine Ev.run (c' := (72, [.ref 27, .int x1, .int x2, .int x3, .int x4, jk], [.int ((((x1 * (10 : Int32)) + (9 : Int32)) * (9 : Int32)) + x3), .ref 33], hp E w2)) hM_121 0 rfl ?_
  rw [g1]
  refine Ev.iald hM_121 rfl (a := 33) rfl (inb_I b1 (by decide)) ?_
  rw [I_clamp (Nat.lt_of_lt_of_le b1 (by decide))]
  refine Ev.run (c' := (79, [.ref 27, .int x1, .int x2, .int x3, .int x4, .int (gA w2 15 j1)], [.int x4, .int (gA w2 15 j1)], hp E w2)) hM_121 3 rfl ?_
  refine Ev.icT hM_121 rfl (cI_leT c6) ?_
  refine Ev.run (c' := (88, [.ref 27, .int x1, .int x2, .int x3, .int x4, .int (gA w2 15 j1)], [.int (gA w2 15 j1)], hp E w2)) hM_121 1 rfl ?_
  exact Ev.fin hM_121 rfl rfl
theorem p121_e_e {E : Nat × (Nat → Int32)} {w : Wd} {d : Nat} {x1 x2 x3 x4 : Int32} {w1 : Wd} {v1 : Int32} {w2 : Wd} {j1 : Nat} (hd : 1 ≤ d) (h1 : Ev (d - 1) 119 (ent0 119 [.ref 27, .int x1, .int x2, .int x3] (hp E (sF 8 (0 : Int32) w))) (.inl (some (.int v1)), hp E w1)) (c1 : ¬ v1 = 0) (c2 : ¬ x4 < 0) (c3 : ¬ (3 : Int32) < x4) (c4 : x2 = (-1 : Int32)) (h2 : Ev (d - 1) 118 (ent0 118 [.ref 27, .int (1 : Int32)] (hp E w1)) (.inl none, hp E w2)) (c5 : ¬ x2 = (-1 : Int32)) (g1 : ((((x1 * (10 : Int32)) + x2) * (9 : Int32)) + x3) = I j1) (b1 : j1 < 810) (c6 : x4 < (gA w2 15 j1)) : Ev d 121 (ent0 121 [.ref 27, .int x1, .int x2, .int x3, .int x4] (hp E w)) (.inl (some (.int (-1 : Int32))), hp E w2) := by
  refine Ev.run (c' := (9, [.ref 27, .int x1, .int x2, .int x3, .int x4, jk], [.int x3, .int x2, .int x1, .ref 27], hp E (sF 8 (0 : Int32) w))) hM_121 7 rfl ?_
  refine Ev.callR hd hM_121 rfl (y := 119) (as := [.ref 27, .int x1, .int x2, .int x3]) (rest := []) rfl (Nat.le_of_ble_eq_true rfl) h1 ?_
  refine Ev.run (c' := (12, [.ref 27, .int x1, .int x2, .int x3, .int x4, jk], [.int v1], hp E w1)) hM_121 0 rfl ?_
  refine Ev.ifT hM_121 rfl (cI_neT c1) ?_
  refine Ev.run (c' := (23, [.ref 27, .int x1, .int x2, .int x3, .int x4, jk], [.int x4], hp E w1)) hM_121 1 rfl ?_
  refine Ev.ifF hM_121 rfl (cI_ltF c2) ?_
  refine Ev.run (c' := (29, [.ref 27, .int x1, .int x2, .int x3, .int x4, jk], [.int (3 : Int32), .int x4], hp E w1)) hM_121 2 rfl ?_
  refine Ev.icT hM_121 rfl (cI_leT c3) ?_
  refine Ev.run (c' := (41, [.ref 27, .int x1, .int x2, .int x3, .int x4, jk], [.int (-1 : Int32), .int x2, .ref 27], hp E w1)) hM_121 3 rfl ?_
  refine Ev.icF hM_121 rfl (cI_neF c4) ?_
  refine Ev.run (c' := (49, [.ref 27, .int x1, .int x2, .int x3, .int x4, jk], [.int (1 : Int32), .ref 27], hp E w1)) hM_121 2 rfl ?_
  refine Ev.callR hd hM_121 rfl (y := 118) (as := [.ref 27, .int (1 : Int32)]) (rest := []) rfl (Nat.le_of_ble_eq_true rfl) h2 ?_
  refine Ev.run (c' := (59, [.ref 27, .int x1, .int x2, .int x3, .int x4, jk], [.int (-1 : Int32), .int x2, .int x1, .ref 33], hp E w2)) hM_121 5 rfl ?_
  refine Ev.icT hM_121 rfl (cI_neT c5) ?_
  refine Ev.run (c' := (69, [.ref 27, .int x1, .int x2, .int x3, .int x4, jk], [.int x3, .int x2, .int x1, .ref 33], hp E w2)) hM_121 2 rfl ?_
  refine Ev.callR hd hM_121 rfl (y := 113) (as := [.int x1, .int x2, .int x3]) (rest := [.ref 33]) rfl (Nat.le_of_ble_eq_true rfl) (place_spec) ?_
  refine Ev.run (c' := (72, [.ref 27, .int x1, .int x2, .int x3, .int x4, jk], [.int ((((x1 * (10 : Int32)) + x2) * (9 : Int32)) + x3), .ref 33], hp E w2)) hM_121 0 rfl ?_
  rw [g1]
  refine Ev.iald hM_121 rfl (a := 33) rfl (inb_I b1 (by decide)) ?_
  rw [I_clamp (Nat.lt_of_lt_of_le b1 (by decide))]
  refine Ev.run (c' := (79, [.ref 27, .int x1, .int x2, .int x3, .int x4, .int (gA w2 15 j1)], [.int x4, .int (gA w2 15 j1)], hp E w2)) hM_121 3 rfl ?_
  refine Ev.icF hM_121 rfl (cI_leF c6) ?_
  refine Ev.run (c' := (88, [.ref 27, .int x1, .int x2, .int x3, .int x4, .int (gA w2 15 j1)], [.int (-1 : Int32)], hp E w2)) hM_121 2 rfl ?_
  exact Ev.fin hM_121 rfl rfl
theorem p121_e_f {E : Nat × (Nat → Int32)} {w : Wd} {d : Nat} {x1 x2 x3 x4 : Int32} {w1 : Wd} {v1 : Int32} {w2 : Wd} {j1 : Nat} {y : Int32} (hd : 1 ≤ d) (h1 : Ev (d - 1) 119 (ent0 119 [.ref 27, .int x1, .int x2, .int x3] (hp E (sF 8 (0 : Int32) w))) (.inl (some (.int v1)), hp E w1)) (c1 : ¬ v1 = 0) (c2 : ¬ x4 < 0) (c3 : ¬ (3 : Int32) < x4) (c4 : x2 = (-1 : Int32)) (h2 : Ev (d - 1) 118 (ent0 118 [.ref 27, .int (1 : Int32)] (hp E w1)) (.inl none, hp E w2)) (c5 : ¬ x2 = (-1 : Int32)) (g1 : ((((x1 * (10 : Int32)) + x2) * (9 : Int32)) + x3) = I j1) (b1 : j1 < 810) (c6 : ¬ x4 < (gA w2 15 j1)) (q : (gA w2 15 j1) = y) : Ev d 121 (ent0 121 [.ref 27, .int x1, .int x2, .int x3, .int x4] (hp E w)) (.inl (some (.int y)), hp E w2) := by
  subst q
  refine Ev.run (c' := (9, [.ref 27, .int x1, .int x2, .int x3, .int x4, jk], [.int x3, .int x2, .int x1, .ref 27], hp E (sF 8 (0 : Int32) w))) hM_121 7 rfl ?_
  refine Ev.callR hd hM_121 rfl (y := 119) (as := [.ref 27, .int x1, .int x2, .int x3]) (rest := []) rfl (Nat.le_of_ble_eq_true rfl) h1 ?_
  refine Ev.run (c' := (12, [.ref 27, .int x1, .int x2, .int x3, .int x4, jk], [.int v1], hp E w1)) hM_121 0 rfl ?_
  refine Ev.ifT hM_121 rfl (cI_neT c1) ?_
  refine Ev.run (c' := (23, [.ref 27, .int x1, .int x2, .int x3, .int x4, jk], [.int x4], hp E w1)) hM_121 1 rfl ?_
  refine Ev.ifF hM_121 rfl (cI_ltF c2) ?_
  refine Ev.run (c' := (29, [.ref 27, .int x1, .int x2, .int x3, .int x4, jk], [.int (3 : Int32), .int x4], hp E w1)) hM_121 2 rfl ?_
  refine Ev.icT hM_121 rfl (cI_leT c3) ?_
  refine Ev.run (c' := (41, [.ref 27, .int x1, .int x2, .int x3, .int x4, jk], [.int (-1 : Int32), .int x2, .ref 27], hp E w1)) hM_121 3 rfl ?_
  refine Ev.icF hM_121 rfl (cI_neF c4) ?_
  refine Ev.run (c' := (49, [.ref 27, .int x1, .int x2, .int x3, .int x4, jk], [.int (1 : Int32), .ref 27], hp E w1)) hM_121 2 rfl ?_
  refine Ev.callR hd hM_121 rfl (y := 118) (as := [.ref 27, .int (1 : Int32)]) (rest := []) rfl (Nat.le_of_ble_eq_true rfl) h2 ?_
  refine Ev.run (c' := (59, [.ref 27, .int x1, .int x2, .int x3, .int x4, jk], [.int (-1 : Int32), .int x2, .int x1, .ref 33], hp E w2)) hM_121 5 rfl ?_
  refine Ev.icT hM_121 rfl (cI_neT c5) ?_
  refine Ev.run (c' := (69, [.ref 27, .int x1, .int x2, .int x3, .int x4, jk], [.int x3, .int x2, .int x1, .ref 33], hp E w2)) hM_121 2 rfl ?_
  refine Ev.callR hd hM_121 rfl (y := 113) (as := [.int x1, .int x2, .int x3]) (rest := [.ref 33]) rfl (Nat.le_of_ble_eq_true rfl) (place_spec) ?_
  refine Ev.run (c' := (72, [.ref 27, .int x1, .int x2, .int x3, .int x4, jk], [.int ((((x1 * (10 : Int32)) + x2) * (9 : Int32)) + x3), .ref 33], hp E w2)) hM_121 0 rfl ?_
  rw [g1]
  refine Ev.iald hM_121 rfl (a := 33) rfl (inb_I b1 (by decide)) ?_
  rw [I_clamp (Nat.lt_of_lt_of_le b1 (by decide))]
  refine Ev.run (c' := (79, [.ref 27, .int x1, .int x2, .int x3, .int x4, .int (gA w2 15 j1)], [.int x4, .int (gA w2 15 j1)], hp E w2)) hM_121 3 rfl ?_
  refine Ev.icT hM_121 rfl (cI_leT c6) ?_
  refine Ev.run (c' := (88, [.ref 27, .int x1, .int x2, .int x3, .int x4, .int (gA w2 15 j1)], [.int (gA w2 15 j1)], hp E w2)) hM_121 1 rfl ?_
  exact Ev.fin hM_121 rfl rfl
theorem p121_e_g {E : Nat × (Nat → Int32)} {w : Wd} {d : Nat} {x1 x2 x3 x4 : Int32} {w1 : Wd} {v1 : Int32} {w2 : Wd} {j1 : Nat} (hd : 1 ≤ d) (h1 : Ev (d - 1) 119 (ent0 119 [.ref 27, .int x1, .int x2, .int x3] (hp E (sF 8 (0 : Int32) w))) (.inl (some (.int v1)), hp E w1)) (c1 : ¬ v1 = 0) (c2 : ¬ x4 < 0) (c3 : ¬ (3 : Int32) < x4) (c4 : ¬ x2 = (-1 : Int32)) (h2 : Ev (d - 1) 118 (ent0 118 [.ref 27, .int (0 : Int32)] (hp E w1)) (.inl none, hp E w2)) (c5 : x2 = (-1 : Int32)) (g1 : ((((x1 * (10 : Int32)) + (9 : Int32)) * (9 : Int32)) + x3) = I j1) (b1 : j1 < 810) (c6 : x4 < (gA w2 15 j1)) : Ev d 121 (ent0 121 [.ref 27, .int x1, .int x2, .int x3, .int x4] (hp E w)) (.inl (some (.int (-1 : Int32))), hp E w2) := by
  refine Ev.run (c' := (9, [.ref 27, .int x1, .int x2, .int x3, .int x4, jk], [.int x3, .int x2, .int x1, .ref 27], hp E (sF 8 (0 : Int32) w))) hM_121 7 rfl ?_
  refine Ev.callR hd hM_121 rfl (y := 119) (as := [.ref 27, .int x1, .int x2, .int x3]) (rest := []) rfl (Nat.le_of_ble_eq_true rfl) h1 ?_
  refine Ev.run (c' := (12, [.ref 27, .int x1, .int x2, .int x3, .int x4, jk], [.int v1], hp E w1)) hM_121 0 rfl ?_
  refine Ev.ifT hM_121 rfl (cI_neT c1) ?_
  refine Ev.run (c' := (23, [.ref 27, .int x1, .int x2, .int x3, .int x4, jk], [.int x4], hp E w1)) hM_121 1 rfl ?_
  refine Ev.ifF hM_121 rfl (cI_ltF c2) ?_
  refine Ev.run (c' := (29, [.ref 27, .int x1, .int x2, .int x3, .int x4, jk], [.int (3 : Int32), .int x4], hp E w1)) hM_121 2 rfl ?_
  refine Ev.icT hM_121 rfl (cI_leT c3) ?_
  refine Ev.run (c' := (41, [.ref 27, .int x1, .int x2, .int x3, .int x4, jk], [.int (-1 : Int32), .int x2, .ref 27], hp E w1)) hM_121 3 rfl ?_
  refine Ev.icT hM_121 rfl (cI_neT c4) ?_
  refine Ev.run (c' := (49, [.ref 27, .int x1, .int x2, .int x3, .int x4, jk], [.int (0 : Int32), .ref 27], hp E w1)) hM_121 1 rfl ?_
  refine Ev.callR hd hM_121 rfl (y := 118) (as := [.ref 27, .int (0 : Int32)]) (rest := []) rfl (Nat.le_of_ble_eq_true rfl) h2 ?_
  refine Ev.run (c' := (59, [.ref 27, .int x1, .int x2, .int x3, .int x4, jk], [.int (-1 : Int32), .int x2, .int x1, .ref 33], hp E w2)) hM_121 5 rfl ?_
  refine Ev.icF hM_121 rfl (cI_neF c5) ?_
  refine Ev.run (c' := (69, [.ref 27, .int x1, .int x2, .int x3, .int x4, jk], [.int x3, .int (9 : Int32), .int x1, .ref 33], hp E w2)) hM_121 3 rfl ?_
  refine Ev.callR hd hM_121 rfl (y := 113) (as := [.int x1, .int (9 : Int32), .int x3]) (rest := [.ref 33]) rfl (Nat.le_of_ble_eq_true rfl) (place_spec) ?_
  refine Ev.run (c' := (72, [.ref 27, .int x1, .int x2, .int x3, .int x4, jk], [.int ((((x1 * (10 : Int32)) + (9 : Int32)) * (9 : Int32)) + x3), .ref 33], hp E w2)) hM_121 0 rfl ?_
  rw [g1]
  refine Ev.iald hM_121 rfl (a := 33) rfl (inb_I b1 (by decide)) ?_
  rw [I_clamp (Nat.lt_of_lt_of_le b1 (by decide))]
  refine Ev.run (c' := (79, [.ref 27, .int x1, .int x2, .int x3, .int x4, .int (gA w2 15 j1)], [.int x4, .int (gA w2 15 j1)], hp E w2)) hM_121 3 rfl ?_
  refine Ev.icF hM_121 rfl (cI_leF c6) ?_
  refine Ev.run (c' := (88, [.ref 27, .int x1, .int x2, .int x3, .int x4, .int (gA w2 15 j1)], [.int (-1 : Int32)], hp E w2)) hM_121 2 rfl ?_
  exact Ev.fin hM_121 rfl rfl
theorem p121_e_h {E : Nat × (Nat → Int32)} {w : Wd} {d : Nat} {x1 x2 x3 x4 : Int32} {w1 : Wd} {v1 : Int32} {w2 : Wd} {j1 : Nat} {y : Int32} (hd : 1 ≤ d) (h1 : Ev (d - 1) 119 (ent0 119 [.ref 27, .int x1, .int x2, .int x3] (hp E (sF 8 (0 : Int32) w))) (.inl (some (.int v1)), hp E w1)) (c1 : ¬ v1 = 0) (c2 : ¬ x4 < 0) (c3 : ¬ (3 : Int32) < x4) (c4 : ¬ x2 = (-1 : Int32)) (h2 : Ev (d - 1) 118 (ent0 118 [.ref 27, .int (0 : Int32)] (hp E w1)) (.inl none, hp E w2)) (c5 : x2 = (-1 : Int32)) (g1 : ((((x1 * (10 : Int32)) + (9 : Int32)) * (9 : Int32)) + x3) = I j1) (b1 : j1 < 810) (c6 : ¬ x4 < (gA w2 15 j1)) (q : (gA w2 15 j1) = y) : Ev d 121 (ent0 121 [.ref 27, .int x1, .int x2, .int x3, .int x4] (hp E w)) (.inl (some (.int y)), hp E w2) := by
  subst q
  refine Ev.run (c' := (9, [.ref 27, .int x1, .int x2, .int x3, .int x4, jk], [.int x3, .int x2, .int x1, .ref 27], hp E (sF 8 (0 : Int32) w))) hM_121 7 rfl ?_
  refine Ev.callR hd hM_121 rfl (y := 119) (as := [.ref 27, .int x1, .int x2, .int x3]) (rest := []) rfl (Nat.le_of_ble_eq_true rfl) h1 ?_
  refine Ev.run (c' := (12, [.ref 27, .int x1, .int x2, .int x3, .int x4, jk], [.int v1], hp E w1)) hM_121 0 rfl ?_
  refine Ev.ifT hM_121 rfl (cI_neT c1) ?_
  refine Ev.run (c' := (23, [.ref 27, .int x1, .int x2, .int x3, .int x4, jk], [.int x4], hp E w1)) hM_121 1 rfl ?_
  refine Ev.ifF hM_121 rfl (cI_ltF c2) ?_
  refine Ev.run (c' := (29, [.ref 27, .int x1, .int x2, .int x3, .int x4, jk], [.int (3 : Int32), .int x4], hp E w1)) hM_121 2 rfl ?_
  refine Ev.icT hM_121 rfl (cI_leT c3) ?_
  refine Ev.run (c' := (41, [.ref 27, .int x1, .int x2, .int x3, .int x4, jk], [.int (-1 : Int32), .int x2, .ref 27], hp E w1)) hM_121 3 rfl ?_
  refine Ev.icT hM_121 rfl (cI_neT c4) ?_
  refine Ev.run (c' := (49, [.ref 27, .int x1, .int x2, .int x3, .int x4, jk], [.int (0 : Int32), .ref 27], hp E w1)) hM_121 1 rfl ?_
  refine Ev.callR hd hM_121 rfl (y := 118) (as := [.ref 27, .int (0 : Int32)]) (rest := []) rfl (Nat.le_of_ble_eq_true rfl) h2 ?_
  refine Ev.run (c' := (59, [.ref 27, .int x1, .int x2, .int x3, .int x4, jk], [.int (-1 : Int32), .int x2, .int x1, .ref 33], hp E w2)) hM_121 5 rfl ?_
  refine Ev.icF hM_121 rfl (cI_neF c5) ?_
  refine Ev.run (c' := (69, [.ref 27, .int x1, .int x2, .int x3, .int x4, jk], [.int x3, .int (9 : Int32), .int x1, .ref 33], hp E w2)) hM_121 3 rfl ?_
  refine Ev.callR hd hM_121 rfl (y := 113) (as := [.int x1, .int (9 : Int32), .int x3]) (rest := [.ref 33]) rfl (Nat.le_of_ble_eq_true rfl) (place_spec) ?_
  refine Ev.run (c' := (72, [.ref 27, .int x1, .int x2, .int x3, .int x4, jk], [.int ((((x1 * (10 : Int32)) + (9 : Int32)) * (9 : Int32)) + x3), .ref 33], hp E w2)) hM_121 0 rfl ?_
  rw [g1]
  refine Ev.iald hM_121 rfl (a := 33) rfl (inb_I b1 (by decide)) ?_
  rw [I_clamp (Nat.lt_of_lt_of_le b1 (by decide))]
  refine Ev.run (c' := (79, [.ref 27, .int x1, .int x2, .int x3, .int x4, .int (gA w2 15 j1)], [.int x4, .int (gA w2 15 j1)], hp E w2)) hM_121 3 rfl ?_
  refine Ev.icT hM_121 rfl (cI_leT c6) ?_
  refine Ev.run (c' := (88, [.ref 27, .int x1, .int x2, .int x3, .int x4, .int (gA w2 15 j1)], [.int (gA w2 15 j1)], hp E w2)) hM_121 1 rfl ?_
  exact Ev.fin hM_121 rfl rfl
theorem p121_e_i {E : Nat × (Nat → Int32)} {w : Wd} {d : Nat} {x1 x2 x3 x4 : Int32} {w1 : Wd} {v1 : Int32} {w2 : Wd} {j1 : Nat} (hd : 1 ≤ d) (h1 : Ev (d - 1) 119 (ent0 119 [.ref 27, .int x1, .int x2, .int x3] (hp E (sF 8 (0 : Int32) w))) (.inl (some (.int v1)), hp E w1)) (c1 : ¬ v1 = 0) (c2 : ¬ x4 < 0) (c3 : ¬ (3 : Int32) < x4) (c4 : ¬ x2 = (-1 : Int32)) (h2 : Ev (d - 1) 118 (ent0 118 [.ref 27, .int (0 : Int32)] (hp E w1)) (.inl none, hp E w2)) (c5 : ¬ x2 = (-1 : Int32)) (g1 : ((((x1 * (10 : Int32)) + x2) * (9 : Int32)) + x3) = I j1) (b1 : j1 < 810) (c6 : x4 < (gA w2 15 j1)) : Ev d 121 (ent0 121 [.ref 27, .int x1, .int x2, .int x3, .int x4] (hp E w)) (.inl (some (.int (-1 : Int32))), hp E w2) := by
  refine Ev.run (c' := (9, [.ref 27, .int x1, .int x2, .int x3, .int x4, jk], [.int x3, .int x2, .int x1, .ref 27], hp E (sF 8 (0 : Int32) w))) hM_121 7 rfl ?_
  refine Ev.callR hd hM_121 rfl (y := 119) (as := [.ref 27, .int x1, .int x2, .int x3]) (rest := []) rfl (Nat.le_of_ble_eq_true rfl) h1 ?_
  refine Ev.run (c' := (12, [.ref 27, .int x1, .int x2, .int x3, .int x4, jk], [.int v1], hp E w1)) hM_121 0 rfl ?_
  refine Ev.ifT hM_121 rfl (cI_neT c1) ?_
  refine Ev.run (c' := (23, [.ref 27, .int x1, .int x2, .int x3, .int x4, jk], [.int x4], hp E w1)) hM_121 1 rfl ?_
  refine Ev.ifF hM_121 rfl (cI_ltF c2) ?_
  refine Ev.run (c' := (29, [.ref 27, .int x1, .int x2, .int x3, .int x4, jk], [.int (3 : Int32), .int x4], hp E w1)) hM_121 2 rfl ?_
  refine Ev.icT hM_121 rfl (cI_leT c3) ?_
  refine Ev.run (c' := (41, [.ref 27, .int x1, .int x2, .int x3, .int x4, jk], [.int (-1 : Int32), .int x2, .ref 27], hp E w1)) hM_121 3 rfl ?_
  refine Ev.icT hM_121 rfl (cI_neT c4) ?_
  refine Ev.run (c' := (49, [.ref 27, .int x1, .int x2, .int x3, .int x4, jk], [.int (0 : Int32), .ref 27], hp E w1)) hM_121 1 rfl ?_
  refine Ev.callR hd hM_121 rfl (y := 118) (as := [.ref 27, .int (0 : Int32)]) (rest := []) rfl (Nat.le_of_ble_eq_true rfl) h2 ?_
  refine Ev.run (c' := (59, [.ref 27, .int x1, .int x2, .int x3, .int x4, jk], [.int (-1 : Int32), .int x2, .int x1, .ref 33], hp E w2)) hM_121 5 rfl ?_
  refine Ev.icT hM_121 rfl (cI_neT c5) ?_
  refine Ev.run (c' := (69, [.ref 27, .int x1, .int x2, .int x3, .int x4, jk], [.int x3, .int x2, .int x1, .ref 33], hp E w2)) hM_121 2 rfl ?_
  refine Ev.callR hd hM_121 rfl (y := 113) (as := [.int x1, .int x2, .int x3]) (rest := [.ref 33]) rfl (Nat.le_of_ble_eq_true rfl) (place_spec) ?_
  refine Ev.run (c' := (72, [.ref 27, .int x1, .int x2, .int x3, .int x4, jk], [.int ((((x1 * (10 : Int32)) + x2) * (9 : Int32)) + x3), .ref 33], hp E w2)) hM_121 0 rfl ?_
  rw [g1]
  refine Ev.iald hM_121 rfl (a := 33) rfl (inb_I b1 (by decide)) ?_
  rw [I_clamp (Nat.lt_of_lt_of_le b1 (by decide))]
  refine Ev.run (c' := (79, [.ref 27, .int x1, .int x2, .int x3, .int x4, .int (gA w2 15 j1)], [.int x4, .int (gA w2 15 j1)], hp E w2)) hM_121 3 rfl ?_
  refine Ev.icF hM_121 rfl (cI_leF c6) ?_
  refine Ev.run (c' := (88, [.ref 27, .int x1, .int x2, .int x3, .int x4, .int (gA w2 15 j1)], [.int (-1 : Int32)], hp E w2)) hM_121 2 rfl ?_
  exact Ev.fin hM_121 rfl rfl
theorem p121_e_j {E : Nat × (Nat → Int32)} {w : Wd} {d : Nat} {x1 x2 x3 x4 : Int32} {w1 : Wd} {v1 : Int32} {w2 : Wd} {j1 : Nat} {y : Int32} (hd : 1 ≤ d) (h1 : Ev (d - 1) 119 (ent0 119 [.ref 27, .int x1, .int x2, .int x3] (hp E (sF 8 (0 : Int32) w))) (.inl (some (.int v1)), hp E w1)) (c1 : ¬ v1 = 0) (c2 : ¬ x4 < 0) (c3 : ¬ (3 : Int32) < x4) (c4 : ¬ x2 = (-1 : Int32)) (h2 : Ev (d - 1) 118 (ent0 118 [.ref 27, .int (0 : Int32)] (hp E w1)) (.inl none, hp E w2)) (c5 : ¬ x2 = (-1 : Int32)) (g1 : ((((x1 * (10 : Int32)) + x2) * (9 : Int32)) + x3) = I j1) (b1 : j1 < 810) (c6 : ¬ x4 < (gA w2 15 j1)) (q : (gA w2 15 j1) = y) : Ev d 121 (ent0 121 [.ref 27, .int x1, .int x2, .int x3, .int x4] (hp E w)) (.inl (some (.int y)), hp E w2) := by
  subst q
  refine Ev.run (c' := (9, [.ref 27, .int x1, .int x2, .int x3, .int x4, jk], [.int x3, .int x2, .int x1, .ref 27], hp E (sF 8 (0 : Int32) w))) hM_121 7 rfl ?_
  refine Ev.callR hd hM_121 rfl (y := 119) (as := [.ref 27, .int x1, .int x2, .int x3]) (rest := []) rfl (Nat.le_of_ble_eq_true rfl) h1 ?_
  refine Ev.run (c' := (12, [.ref 27, .int x1, .int x2, .int x3, .int x4, jk], [.int v1], hp E w1)) hM_121 0 rfl ?_
  refine Ev.ifT hM_121 rfl (cI_neT c1) ?_
  refine Ev.run (c' := (23, [.ref 27, .int x1, .int x2, .int x3, .int x4, jk], [.int x4], hp E w1)) hM_121 1 rfl ?_
  refine Ev.ifF hM_121 rfl (cI_ltF c2) ?_
  refine Ev.run (c' := (29, [.ref 27, .int x1, .int x2, .int x3, .int x4, jk], [.int (3 : Int32), .int x4], hp E w1)) hM_121 2 rfl ?_
  refine Ev.icT hM_121 rfl (cI_leT c3) ?_
  refine Ev.run (c' := (41, [.ref 27, .int x1, .int x2, .int x3, .int x4, jk], [.int (-1 : Int32), .int x2, .ref 27], hp E w1)) hM_121 3 rfl ?_
  refine Ev.icT hM_121 rfl (cI_neT c4) ?_
  refine Ev.run (c' := (49, [.ref 27, .int x1, .int x2, .int x3, .int x4, jk], [.int (0 : Int32), .ref 27], hp E w1)) hM_121 1 rfl ?_
  refine Ev.callR hd hM_121 rfl (y := 118) (as := [.ref 27, .int (0 : Int32)]) (rest := []) rfl (Nat.le_of_ble_eq_true rfl) h2 ?_
  refine Ev.run (c' := (59, [.ref 27, .int x1, .int x2, .int x3, .int x4, jk], [.int (-1 : Int32), .int x2, .int x1, .ref 33], hp E w2)) hM_121 5 rfl ?_
  refine Ev.icT hM_121 rfl (cI_neT c5) ?_
  refine Ev.run (c' := (69, [.ref 27, .int x1, .int x2, .int x3, .int x4, jk], [.int x3, .int x2, .int x1, .ref 33], hp E w2)) hM_121 2 rfl ?_
  refine Ev.callR hd hM_121 rfl (y := 113) (as := [.int x1, .int x2, .int x3]) (rest := [.ref 33]) rfl (Nat.le_of_ble_eq_true rfl) (place_spec) ?_
  refine Ev.run (c' := (72, [.ref 27, .int x1, .int x2, .int x3, .int x4, jk], [.int ((((x1 * (10 : Int32)) + x2) * (9 : Int32)) + x3), .ref 33], hp E w2)) hM_121 0 rfl ?_
  rw [g1]
  refine Ev.iald hM_121 rfl (a := 33) rfl (inb_I b1 (by decide)) ?_
  rw [I_clamp (Nat.lt_of_lt_of_le b1 (by decide))]
  refine Ev.run (c' := (79, [.ref 27, .int x1, .int x2, .int x3, .int x4, .int (gA w2 15 j1)], [.int x4, .int (gA w2 15 j1)], hp E w2)) hM_121 3 rfl ?_
  refine Ev.icT hM_121 rfl (cI_leT c6) ?_
  refine Ev.run (c' := (88, [.ref 27, .int x1, .int x2, .int x3, .int x4, .int (gA w2 15 j1)], [.int (gA w2 15 j1)], hp E w2)) hM_121 1 rfl ?_
  exact Ev.fin hM_121 rfl rfl
theorem p121_e_k {E : Nat × (Nat → Int32)} {w : Wd} {d : Nat} {x1 x2 x3 x4 : Int32} {w1 : Wd} {v1 : Int32} {w2 : Wd} {v2 : Int32} (hd : 1 ≤ d) (h1 : Ev (d - 1) 119 (ent0 119 [.ref 27, .int x1, .int x2, .int x3] (hp E (sF 8 (0 : Int32) w))) (.inl (some (.int v1)), hp E w1)) (c1 : ¬ v1 = 0) (c2 : x4 < 0) (h2 : Ev (d - 1) 97 (ent0 97 [.ref 27, .int (2 : Int32)] (hp E w1)) (.inl (some (.int v2)), hp E w2)) : Ev d 121 (ent0 121 [.ref 27, .int x1, .int x2, .int x3, .int x4] (hp E w)) (.inl (some (.int v2)), hp E w2) := by
  refine Ev.run (c' := (9, [.ref 27, .int x1, .int x2, .int x3, .int x4, jk], [.int x3, .int x2, .int x1, .ref 27], hp E (sF 8 (0 : Int32) w))) hM_121 7 rfl ?_
  refine Ev.callR hd hM_121 rfl (y := 119) (as := [.ref 27, .int x1, .int x2, .int x3]) (rest := []) rfl (Nat.le_of_ble_eq_true rfl) h1 ?_
  refine Ev.run (c' := (12, [.ref 27, .int x1, .int x2, .int x3, .int x4, jk], [.int v1], hp E w1)) hM_121 0 rfl ?_
  refine Ev.ifT hM_121 rfl (cI_neT c1) ?_
  refine Ev.run (c' := (23, [.ref 27, .int x1, .int x2, .int x3, .int x4, jk], [.int x4], hp E w1)) hM_121 1 rfl ?_
  refine Ev.ifT hM_121 rfl (cI_ltT c2) ?_
  refine Ev.run (c' := (34, [.ref 27, .int x1, .int x2, .int x3, .int x4, jk], [.int (2 : Int32), .ref 27], hp E w1)) hM_121 2 rfl ?_
  refine Ev.callR hd hM_121 rfl (y := 97) (as := [.ref 27, .int (2 : Int32)]) (rest := []) rfl (Nat.le_of_ble_eq_true rfl) h2 ?_
  refine Ev.run (c' := (37, [.ref 27, .int x1, .int x2, .int x3, .int x4, jk], [.int v2], hp E w2)) hM_121 0 rfl ?_
  exact Ev.fin hM_121 rfl rfl
theorem hM_122 : mAt 122 = some km_X8_step := rfl
theorem p122_e_a {E : Nat × (Nat → Int32)} {w : Wd} {d : Nat} {x1 x2 x3 : Int32} {w1 : Wd} {v1 : Int32} {w2 : Wd} {v2 : Int32} (hd : 1 ≤ d) (h1 : Ev (d - 1) 119 (ent0 119 [.ref 27, .int x1, .int x2, .int x3] (hp E (sF 8 (0 : Int32) w))) (.inl (some (.int v1)), hp E w1)) (c1 : v1 = 0) (h2 : Ev (d - 1) 97 (ent0 97 [.ref 27, .int (1 : Int32)] (hp E w1)) (.inl (some (.int v2)), hp E w2)) : Ev d 122 (ent0 122 [.ref 27, .int x1, .int x2, .int x3] (hp E w)) (.inl (some (.int v2)), hp E w2) := by
  refine Ev.run (c' := (9, [.ref 27, .int x1, .int x2, .int x3, jk, jk, jk, jk, jk, jk, jk], [.int x3, .int x2, .int x1, .ref 27], hp E (sF 8 (0 : Int32) w))) hM_122 7 rfl ?_
  refine Ev.callR hd hM_122 rfl (y := 119) (as := [.ref 27, .int x1, .int x2, .int x3]) (rest := []) rfl (Nat.le_of_ble_eq_true rfl) h1 ?_
  refine Ev.run (c' := (12, [.ref 27, .int x1, .int x2, .int x3, jk, jk, jk, jk, jk, jk, jk], [.int v1], hp E w1)) hM_122 0 rfl ?_
  refine Ev.ifF hM_122 rfl (cI_neF c1) ?_
  refine Ev.run (c' := (17, [.ref 27, .int x1, .int x2, .int x3, jk, jk, jk, jk, jk, jk, jk], [.int (1 : Int32), .ref 27], hp E w1)) hM_122 2 rfl ?_
  refine Ev.callR hd hM_122 rfl (y := 97) (as := [.ref 27, .int (1 : Int32)]) (rest := []) rfl (Nat.le_of_ble_eq_true rfl) h2 ?_
  refine Ev.run (c' := (20, [.ref 27, .int x1, .int x2, .int x3, jk, jk, jk, jk, jk, jk, jk], [.int v2], hp E w2)) hM_122 0 rfl ?_
  exact Ev.fin hM_122 rfl rfl
theorem p122_e_b {E : Nat × (Nat → Int32)} {w : Wd} {d : Nat} {x1 x2 x3 : Int32} {w1 : Wd} {v1 : Int32} {w2 : Wd} {j1 : Nat} (hd : 1 ≤ d) (h1 : Ev (d - 1) 119 (ent0 119 [.ref 27, .int x1, .int x2, .int x3] (hp E (sF 8 (0 : Int32) w))) (.inl (some (.int v1)), hp E w1)) (c1 : ¬ v1 = 0) (c2 : x2 = (-1 : Int32)) (h2 : Ev (d - 1) 118 (ent0 118 [.ref 27, .int (1 : Int32)] (hp E w1)) (.inl none, hp E w2)) (c3 : x2 = (-1 : Int32)) (g1 : ((((x1 * (10 : Int32)) + (9 : Int32)) * (9 : Int32)) + x3) = I j1) (b1 : j1 < 810) (c4 : ¬ (gA w2 15 j1) = 0) (c5 : (gA w2 15 j1) = (99 : Int32)) : Ev d 122 (ent0 122 [.ref 27, .int x1, .int x2, .int x3] (hp E w)) (.inl (some (.int (-1 : Int32))), hp E w2) := by
  refine Ev.run (c' := (9, [.ref 27, .int x1, .int x2, .int x3, jk, jk, jk, jk, jk, jk, jk], [.int x3, .int x2, .int x1, .ref 27], hp E (sF 8 (0 : Int32) w))) hM_122 7 rfl ?_
  refine Ev.callR hd hM_122 rfl (y := 119) (as := [.ref 27, .int x1, .int x2, .int x3]) (rest := []) rfl (Nat.le_of_ble_eq_true rfl) h1 ?_
  refine Ev.run (c' := (12, [.ref 27, .int x1, .int x2, .int x3, jk, jk, jk, jk, jk, jk, jk], [.int v1], hp E w1)) hM_122 0 rfl ?_
  refine Ev.ifT hM_122 rfl (cI_neT c1) ?_
  refine Ev.run (c' := (24, [.ref 27, .int x1, .int x2, .int x3, jk, jk, jk, jk, jk, jk, jk], [.int (-1 : Int32), .int x2, .ref 27], hp E w1)) hM_122 3 rfl ?_
  refine Ev.icF hM_122 rfl (cI_neF c2) ?_
  refine Ev.run (c' := (32, [.ref 27, .int x1, .int x2, .int x3, jk, jk, jk, jk, jk, jk, jk], [.int (1 : Int32), .ref 27], hp E w1)) hM_122 2 rfl ?_
  refine Ev.callR hd hM_122 rfl (y := 118) (as := [.ref 27, .int (1 : Int32)]) (rest := []) rfl (Nat.le_of_ble_eq_true rfl) h2 ?_
  refine Ev.run (c' := (37, [.ref 27, .int x1, .int x2, .int x3, jk, jk, jk, jk, jk, jk, jk], [.int (-1 : Int32), .int x2], hp E w2)) hM_122 2 rfl ?_
  refine Ev.icF hM_122 rfl (cI_neF c3) ?_
  refine Ev.run (c' := (56, [.ref 27, .int x1, .int x2, .int x3, .int (9 : Int32), jk, jk, jk, jk, jk, jk], [.int x3, .int (9 : Int32), .int x1, .ref 33], hp E w2)) hM_122 8 rfl ?_
  refine Ev.callR hd hM_122 rfl (y := 113) (as := [.int x1, .int (9 : Int32), .int x3]) (rest := [.ref 33]) rfl (Nat.le_of_ble_eq_true rfl) (place_spec) ?_
  refine Ev.run (c' := (59, [.ref 27, .int x1, .int x2, .int x3, .int (9 : Int32), jk, jk, jk, jk, jk, jk], [.int ((((x1 * (10 : Int32)) + (9 : Int32)) * (9 : Int32)) + x3), .ref 33], hp E w2)) hM_122 0 rfl ?_
  rw [g1]
  refine Ev.iald hM_122 rfl (a := 33) rfl (inb_I b1 (by decide)) ?_
  rw [I_clamp (Nat.lt_of_lt_of_le b1 (by decide))]
  refine Ev.run (c' := (64, [.ref 27, .int x1, .int x2, .int x3, .int (9 : Int32), .int (gA w2 15 j1), jk, jk, jk, jk, jk], [.int (gA w2 15 j1)], hp E w2)) hM_122 2 rfl ?_
  refine Ev.ifF hM_122 rfl (cI_eqF c4) ?_
  refine Ev.run (c' := (71, [.ref 27, .int x1, .int x2, .int x3, .int (9 : Int32), .int (gA w2 15 j1), jk, jk, jk, jk, jk], [.int (99 : Int32), .int (gA w2 15 j1)], hp E w2)) hM_122 2 rfl ?_
  refine Ev.icF hM_122 rfl (cI_neF c5) ?_
  refine Ev.run (c' := (75, [.ref 27, .int x1, .int x2, .int x3, .int (9 : Int32), .int (gA w2 15 j1), jk, jk, jk, jk, jk], [.int (-1 : Int32)], hp E w2)) hM_122 1 rfl ?_
  exact Ev.fin hM_122 rfl rfl
theorem p122_e_c {E : Nat × (Nat → Int32)} {w : Wd} {d : Nat} {x1 x2 x3 : Int32} {o : Ou} {w1 : Wd} {v1 : Int32} {w2 : Wd} {j1 : Nat} {y5 : Int32} (hd : 1 ≤ d) (h1 : Ev (d - 1) 119 (ent0 119 [.ref 27, .int x1, .int x2, .int x3] (hp E (sF 8 (0 : Int32) w))) (.inl (some (.int v1)), hp E w1)) (c1 : ¬ v1 = 0) (c2 : x2 = (-1 : Int32)) (h2 : Ev (d - 1) 118 (ent0 118 [.ref 27, .int (1 : Int32)] (hp E w1)) (.inl none, hp E w2)) (c3 : x2 = (-1 : Int32)) (g1 : ((((x1 * (10 : Int32)) + (9 : Int32)) * (9 : Int32)) + x3) = I j1) (b1 : j1 < 810) (c4 : ¬ (gA w2 15 j1) = 0) (c5 : ¬ (gA w2 15 j1) = (99 : Int32)) (q5 : (gA w2 15 j1) = y5) (e : Ev d 122 (84, [.ref 27, .int x1, .int x2, .int x3, .int (9 : Int32), .int y5, .int (1000 : Int32), .int (0 : Int32), jk, jk, jk], [], hp E w2) o) : Ev d 122 (ent0 122 [.ref 27, .int x1, .int x2, .int x3] (hp E w)) o := by
  subst q5
  refine Ev.run (c' := (9, [.ref 27, .int x1, .int x2, .int x3, jk, jk, jk, jk, jk, jk, jk], [.int x3, .int x2, .int x1, .ref 27], hp E (sF 8 (0 : Int32) w))) hM_122 7 rfl ?_
  refine Ev.callR hd hM_122 rfl (y := 119) (as := [.ref 27, .int x1, .int x2, .int x3]) (rest := []) rfl (Nat.le_of_ble_eq_true rfl) h1 ?_
  refine Ev.run (c' := (12, [.ref 27, .int x1, .int x2, .int x3, jk, jk, jk, jk, jk, jk, jk], [.int v1], hp E w1)) hM_122 0 rfl ?_
  refine Ev.ifT hM_122 rfl (cI_neT c1) ?_
  refine Ev.run (c' := (24, [.ref 27, .int x1, .int x2, .int x3, jk, jk, jk, jk, jk, jk, jk], [.int (-1 : Int32), .int x2, .ref 27], hp E w1)) hM_122 3 rfl ?_
  refine Ev.icF hM_122 rfl (cI_neF c2) ?_
  refine Ev.run (c' := (32, [.ref 27, .int x1, .int x2, .int x3, jk, jk, jk, jk, jk, jk, jk], [.int (1 : Int32), .ref 27], hp E w1)) hM_122 2 rfl ?_
  refine Ev.callR hd hM_122 rfl (y := 118) (as := [.ref 27, .int (1 : Int32)]) (rest := []) rfl (Nat.le_of_ble_eq_true rfl) h2 ?_
  refine Ev.run (c' := (37, [.ref 27, .int x1, .int x2, .int x3, jk, jk, jk, jk, jk, jk, jk], [.int (-1 : Int32), .int x2], hp E w2)) hM_122 2 rfl ?_
  refine Ev.icF hM_122 rfl (cI_neF c3) ?_
  refine Ev.run (c' := (56, [.ref 27, .int x1, .int x2, .int x3, .int (9 : Int32), jk, jk, jk, jk, jk, jk], [.int x3, .int (9 : Int32), .int x1, .ref 33], hp E w2)) hM_122 8 rfl ?_
  refine Ev.callR hd hM_122 rfl (y := 113) (as := [.int x1, .int (9 : Int32), .int x3]) (rest := [.ref 33]) rfl (Nat.le_of_ble_eq_true rfl) (place_spec) ?_
  refine Ev.run (c' := (59, [.ref 27, .int x1, .int x2, .int x3, .int (9 : Int32), jk, jk, jk, jk, jk, jk], [.int ((((x1 * (10 : Int32)) + (9 : Int32)) * (9 : Int32)) + x3), .ref 33], hp E w2)) hM_122 0 rfl ?_
  rw [g1]
  refine Ev.iald hM_122 rfl (a := 33) rfl (inb_I b1 (by decide)) ?_
  rw [I_clamp (Nat.lt_of_lt_of_le b1 (by decide))]
  refine Ev.run (c' := (64, [.ref 27, .int x1, .int x2, .int x3, .int (9 : Int32), .int (gA w2 15 j1), jk, jk, jk, jk, jk], [.int (gA w2 15 j1)], hp E w2)) hM_122 2 rfl ?_
  refine Ev.ifF hM_122 rfl (cI_eqF c4) ?_
  refine Ev.run (c' := (71, [.ref 27, .int x1, .int x2, .int x3, .int (9 : Int32), .int (gA w2 15 j1), jk, jk, jk, jk, jk], [.int (99 : Int32), .int (gA w2 15 j1)], hp E w2)) hM_122 2 rfl ?_
  refine Ev.icT hM_122 rfl (cI_neT c5) ?_
  refine Ev.run (c' := (84, [.ref 27, .int x1, .int x2, .int x3, .int (9 : Int32), .int (gA w2 15 j1), .int (1000 : Int32), .int (0 : Int32), jk, jk, jk], [], hp E w2)) hM_122 4 rfl ?_
  exact e
theorem p122_e_d {E : Nat × (Nat → Int32)} {w : Wd} {d : Nat} {x1 x2 x3 : Int32} {w1 : Wd} {v1 : Int32} {w2 : Wd} {j1 : Nat} (hd : 1 ≤ d) (h1 : Ev (d - 1) 119 (ent0 119 [.ref 27, .int x1, .int x2, .int x3] (hp E (sF 8 (0 : Int32) w))) (.inl (some (.int v1)), hp E w1)) (c1 : ¬ v1 = 0) (c2 : x2 = (-1 : Int32)) (h2 : Ev (d - 1) 118 (ent0 118 [.ref 27, .int (1 : Int32)] (hp E w1)) (.inl none, hp E w2)) (c3 : x2 = (-1 : Int32)) (g1 : ((((x1 * (10 : Int32)) + (9 : Int32)) * (9 : Int32)) + x3) = I j1) (b1 : j1 < 810) (c4 : (gA w2 15 j1) = 0) : Ev d 122 (ent0 122 [.ref 27, .int x1, .int x2, .int x3] (hp E w)) (.inl (some (.int (-1 : Int32))), hp E w2) := by
  refine Ev.run (c' := (9, [.ref 27, .int x1, .int x2, .int x3, jk, jk, jk, jk, jk, jk, jk], [.int x3, .int x2, .int x1, .ref 27], hp E (sF 8 (0 : Int32) w))) hM_122 7 rfl ?_
  refine Ev.callR hd hM_122 rfl (y := 119) (as := [.ref 27, .int x1, .int x2, .int x3]) (rest := []) rfl (Nat.le_of_ble_eq_true rfl) h1 ?_
  refine Ev.run (c' := (12, [.ref 27, .int x1, .int x2, .int x3, jk, jk, jk, jk, jk, jk, jk], [.int v1], hp E w1)) hM_122 0 rfl ?_
  refine Ev.ifT hM_122 rfl (cI_neT c1) ?_
  refine Ev.run (c' := (24, [.ref 27, .int x1, .int x2, .int x3, jk, jk, jk, jk, jk, jk, jk], [.int (-1 : Int32), .int x2, .ref 27], hp E w1)) hM_122 3 rfl ?_
  refine Ev.icF hM_122 rfl (cI_neF c2) ?_
  refine Ev.run (c' := (32, [.ref 27, .int x1, .int x2, .int x3, jk, jk, jk, jk, jk, jk, jk], [.int (1 : Int32), .ref 27], hp E w1)) hM_122 2 rfl ?_
  refine Ev.callR hd hM_122 rfl (y := 118) (as := [.ref 27, .int (1 : Int32)]) (rest := []) rfl (Nat.le_of_ble_eq_true rfl) h2 ?_
  refine Ev.run (c' := (37, [.ref 27, .int x1, .int x2, .int x3, jk, jk, jk, jk, jk, jk, jk], [.int (-1 : Int32), .int x2], hp E w2)) hM_122 2 rfl ?_
  refine Ev.icF hM_122 rfl (cI_neF c3) ?_
  refine Ev.run (c' := (56, [.ref 27, .int x1, .int x2, .int x3, .int (9 : Int32), jk, jk, jk, jk, jk, jk], [.int x3, .int (9 : Int32), .int x1, .ref 33], hp E w2)) hM_122 8 rfl ?_
  refine Ev.callR hd hM_122 rfl (y := 113) (as := [.int x1, .int (9 : Int32), .int x3]) (rest := [.ref 33]) rfl (Nat.le_of_ble_eq_true rfl) (place_spec) ?_
  refine Ev.run (c' := (59, [.ref 27, .int x1, .int x2, .int x3, .int (9 : Int32), jk, jk, jk, jk, jk, jk], [.int ((((x1 * (10 : Int32)) + (9 : Int32)) * (9 : Int32)) + x3), .ref 33], hp E w2)) hM_122 0 rfl ?_
  rw [g1]
  refine Ev.iald hM_122 rfl (a := 33) rfl (inb_I b1 (by decide)) ?_
  rw [I_clamp (Nat.lt_of_lt_of_le b1 (by decide))]
  refine Ev.run (c' := (64, [.ref 27, .int x1, .int x2, .int x3, .int (9 : Int32), .int (gA w2 15 j1), jk, jk, jk, jk, jk], [.int (gA w2 15 j1)], hp E w2)) hM_122 2 rfl ?_
  refine Ev.ifT hM_122 rfl (cI_eqT c4) ?_
  refine Ev.run (c' := (75, [.ref 27, .int x1, .int x2, .int x3, .int (9 : Int32), .int (gA w2 15 j1), jk, jk, jk, jk, jk], [.int (-1 : Int32)], hp E w2)) hM_122 1 rfl ?_
  exact Ev.fin hM_122 rfl rfl
theorem p122_e_e {E : Nat × (Nat → Int32)} {w : Wd} {d : Nat} {x1 x2 x3 : Int32} {w1 : Wd} {v1 : Int32} {w2 : Wd} {j1 : Nat} (hd : 1 ≤ d) (h1 : Ev (d - 1) 119 (ent0 119 [.ref 27, .int x1, .int x2, .int x3] (hp E (sF 8 (0 : Int32) w))) (.inl (some (.int v1)), hp E w1)) (c1 : ¬ v1 = 0) (c2 : x2 = (-1 : Int32)) (h2 : Ev (d - 1) 118 (ent0 118 [.ref 27, .int (1 : Int32)] (hp E w1)) (.inl none, hp E w2)) (c3 : ¬ x2 = (-1 : Int32)) (g1 : ((((x1 * (10 : Int32)) + x2) * (9 : Int32)) + x3) = I j1) (b1 : j1 < 810) (c4 : ¬ (gA w2 15 j1) = 0) (c5 : (gA w2 15 j1) = (99 : Int32)) : Ev d 122 (ent0 122 [.ref 27, .int x1, .int x2, .int x3] (hp E w)) (.inl (some (.int (-1 : Int32))), hp E w2) := by
  refine Ev.run (c' := (9, [.ref 27, .int x1, .int x2, .int x3, jk, jk, jk, jk, jk, jk, jk], [.int x3, .int x2, .int x1, .ref 27], hp E (sF 8 (0 : Int32) w))) hM_122 7 rfl ?_
  refine Ev.callR hd hM_122 rfl (y := 119) (as := [.ref 27, .int x1, .int x2, .int x3]) (rest := []) rfl (Nat.le_of_ble_eq_true rfl) h1 ?_
  refine Ev.run (c' := (12, [.ref 27, .int x1, .int x2, .int x3, jk, jk, jk, jk, jk, jk, jk], [.int v1], hp E w1)) hM_122 0 rfl ?_
  refine Ev.ifT hM_122 rfl (cI_neT c1) ?_
  refine Ev.run (c' := (24, [.ref 27, .int x1, .int x2, .int x3, jk, jk, jk, jk, jk, jk, jk], [.int (-1 : Int32), .int x2, .ref 27], hp E w1)) hM_122 3 rfl ?_
  refine Ev.icF hM_122 rfl (cI_neF c2) ?_
  refine Ev.run (c' := (32, [.ref 27, .int x1, .int x2, .int x3, jk, jk, jk, jk, jk, jk, jk], [.int (1 : Int32), .ref 27], hp E w1)) hM_122 2 rfl ?_
  refine Ev.callR hd hM_122 rfl (y := 118) (as := [.ref 27, .int (1 : Int32)]) (rest := []) rfl (Nat.le_of_ble_eq_true rfl) h2 ?_
  refine Ev.run (c' := (37, [.ref 27, .int x1, .int x2, .int x3, jk, jk, jk, jk, jk, jk, jk], [.int (-1 : Int32), .int x2], hp E w2)) hM_122 2 rfl ?_
  refine Ev.icT hM_122 rfl (cI_neT c3) ?_
  refine Ev.run (c' := (56, [.ref 27, .int x1, .int x2, .int x3, .int x2, jk, jk, jk, jk, jk, jk], [.int x3, .int x2, .int x1, .ref 33], hp E w2)) hM_122 7 rfl ?_
  refine Ev.callR hd hM_122 rfl (y := 113) (as := [.int x1, .int x2, .int x3]) (rest := [.ref 33]) rfl (Nat.le_of_ble_eq_true rfl) (place_spec) ?_
  refine Ev.run (c' := (59, [.ref 27, .int x1, .int x2, .int x3, .int x2, jk, jk, jk, jk, jk, jk], [.int ((((x1 * (10 : Int32)) + x2) * (9 : Int32)) + x3), .ref 33], hp E w2)) hM_122 0 rfl ?_
  rw [g1]
  refine Ev.iald hM_122 rfl (a := 33) rfl (inb_I b1 (by decide)) ?_
  rw [I_clamp (Nat.lt_of_lt_of_le b1 (by decide))]
  refine Ev.run (c' := (64, [.ref 27, .int x1, .int x2, .int x3, .int x2, .int (gA w2 15 j1), jk, jk, jk, jk, jk], [.int (gA w2 15 j1)], hp E w2)) hM_122 2 rfl ?_
  refine Ev.ifF hM_122 rfl (cI_eqF c4) ?_
  refine Ev.run (c' := (71, [.ref 27, .int x1, .int x2, .int x3, .int x2, .int (gA w2 15 j1), jk, jk, jk, jk, jk], [.int (99 : Int32), .int (gA w2 15 j1)], hp E w2)) hM_122 2 rfl ?_
  refine Ev.icF hM_122 rfl (cI_neF c5) ?_
  refine Ev.run (c' := (75, [.ref 27, .int x1, .int x2, .int x3, .int x2, .int (gA w2 15 j1), jk, jk, jk, jk, jk], [.int (-1 : Int32)], hp E w2)) hM_122 1 rfl ?_
  exact Ev.fin hM_122 rfl rfl
theorem p122_e_f {E : Nat × (Nat → Int32)} {w : Wd} {d : Nat} {x1 x2 x3 : Int32} {o : Ou} {w1 : Wd} {v1 : Int32} {w2 : Wd} {j1 : Nat} {y5 : Int32} (hd : 1 ≤ d) (h1 : Ev (d - 1) 119 (ent0 119 [.ref 27, .int x1, .int x2, .int x3] (hp E (sF 8 (0 : Int32) w))) (.inl (some (.int v1)), hp E w1)) (c1 : ¬ v1 = 0) (c2 : x2 = (-1 : Int32)) (h2 : Ev (d - 1) 118 (ent0 118 [.ref 27, .int (1 : Int32)] (hp E w1)) (.inl none, hp E w2)) (c3 : ¬ x2 = (-1 : Int32)) (g1 : ((((x1 * (10 : Int32)) + x2) * (9 : Int32)) + x3) = I j1) (b1 : j1 < 810) (c4 : ¬ (gA w2 15 j1) = 0) (c5 : ¬ (gA w2 15 j1) = (99 : Int32)) (q5 : (gA w2 15 j1) = y5) (e : Ev d 122 (84, [.ref 27, .int x1, .int x2, .int x3, .int x2, .int y5, .int (1000 : Int32), .int (0 : Int32), jk, jk, jk], [], hp E w2) o) : Ev d 122 (ent0 122 [.ref 27, .int x1, .int x2, .int x3] (hp E w)) o := by
  subst q5
  refine Ev.run (c' := (9, [.ref 27, .int x1, .int x2, .int x3, jk, jk, jk, jk, jk, jk, jk], [.int x3, .int x2, .int x1, .ref 27], hp E (sF 8 (0 : Int32) w))) hM_122 7 rfl ?_
  refine Ev.callR hd hM_122 rfl (y := 119) (as := [.ref 27, .int x1, .int x2, .int x3]) (rest := []) rfl (Nat.le_of_ble_eq_true rfl) h1 ?_
  refine Ev.run (c' := (12, [.ref 27, .int x1, .int x2, .int x3, jk, jk, jk, jk, jk, jk, jk], [.int v1], hp E w1)) hM_122 0 rfl ?_
  refine Ev.ifT hM_122 rfl (cI_neT c1) ?_
  refine Ev.run (c' := (24, [.ref 27, .int x1, .int x2, .int x3, jk, jk, jk, jk, jk, jk, jk], [.int (-1 : Int32), .int x2, .ref 27], hp E w1)) hM_122 3 rfl ?_
  refine Ev.icF hM_122 rfl (cI_neF c2) ?_
  refine Ev.run (c' := (32, [.ref 27, .int x1, .int x2, .int x3, jk, jk, jk, jk, jk, jk, jk], [.int (1 : Int32), .ref 27], hp E w1)) hM_122 2 rfl ?_
  refine Ev.callR hd hM_122 rfl (y := 118) (as := [.ref 27, .int (1 : Int32)]) (rest := []) rfl (Nat.le_of_ble_eq_true rfl) h2 ?_
  refine Ev.run (c' := (37, [.ref 27, .int x1, .int x2, .int x3, jk, jk, jk, jk, jk, jk, jk], [.int (-1 : Int32), .int x2], hp E w2)) hM_122 2 rfl ?_
  refine Ev.icT hM_122 rfl (cI_neT c3) ?_
  refine Ev.run (c' := (56, [.ref 27, .int x1, .int x2, .int x3, .int x2, jk, jk, jk, jk, jk, jk], [.int x3, .int x2, .int x1, .ref 33], hp E w2)) hM_122 7 rfl ?_
  refine Ev.callR hd hM_122 rfl (y := 113) (as := [.int x1, .int x2, .int x3]) (rest := [.ref 33]) rfl (Nat.le_of_ble_eq_true rfl) (place_spec) ?_
  refine Ev.run (c' := (59, [.ref 27, .int x1, .int x2, .int x3, .int x2, jk, jk, jk, jk, jk, jk], [.int ((((x1 * (10 : Int32)) + x2) * (9 : Int32)) + x3), .ref 33], hp E w2)) hM_122 0 rfl ?_
  rw [g1]
  refine Ev.iald hM_122 rfl (a := 33) rfl (inb_I b1 (by decide)) ?_
  rw [I_clamp (Nat.lt_of_lt_of_le b1 (by decide))]
  refine Ev.run (c' := (64, [.ref 27, .int x1, .int x2, .int x3, .int x2, .int (gA w2 15 j1), jk, jk, jk, jk, jk], [.int (gA w2 15 j1)], hp E w2)) hM_122 2 rfl ?_
  refine Ev.ifF hM_122 rfl (cI_eqF c4) ?_
  refine Ev.run (c' := (71, [.ref 27, .int x1, .int x2, .int x3, .int x2, .int (gA w2 15 j1), jk, jk, jk, jk, jk], [.int (99 : Int32), .int (gA w2 15 j1)], hp E w2)) hM_122 2 rfl ?_
  refine Ev.icT hM_122 rfl (cI_neT c5) ?_
  refine Ev.run (c' := (84, [.ref 27, .int x1, .int x2, .int x3, .int x2, .int (gA w2 15 j1), .int (1000 : Int32), .int (0 : Int32), jk, jk, jk], [], hp E w2)) hM_122 4 rfl ?_
  exact e
theorem p122_e_g {E : Nat × (Nat → Int32)} {w : Wd} {d : Nat} {x1 x2 x3 : Int32} {w1 : Wd} {v1 : Int32} {w2 : Wd} {j1 : Nat} (hd : 1 ≤ d) (h1 : Ev (d - 1) 119 (ent0 119 [.ref 27, .int x1, .int x2, .int x3] (hp E (sF 8 (0 : Int32) w))) (.inl (some (.int v1)), hp E w1)) (c1 : ¬ v1 = 0) (c2 : x2 = (-1 : Int32)) (h2 : Ev (d - 1) 118 (ent0 118 [.ref 27, .int (1 : Int32)] (hp E w1)) (.inl none, hp E w2)) (c3 : ¬ x2 = (-1 : Int32)) (g1 : ((((x1 * (10 : Int32)) + x2) * (9 : Int32)) + x3) = I j1) (b1 : j1 < 810) (c4 : (gA w2 15 j1) = 0) : Ev d 122 (ent0 122 [.ref 27, .int x1, .int x2, .int x3] (hp E w)) (.inl (some (.int (-1 : Int32))), hp E w2) := by
  refine Ev.run (c' := (9, [.ref 27, .int x1, .int x2, .int x3, jk, jk, jk, jk, jk, jk, jk], [.int x3, .int x2, .int x1, .ref 27], hp E (sF 8 (0 : Int32) w))) hM_122 7 rfl ?_
  refine Ev.callR hd hM_122 rfl (y := 119) (as := [.ref 27, .int x1, .int x2, .int x3]) (rest := []) rfl (Nat.le_of_ble_eq_true rfl) h1 ?_
  refine Ev.run (c' := (12, [.ref 27, .int x1, .int x2, .int x3, jk, jk, jk, jk, jk, jk, jk], [.int v1], hp E w1)) hM_122 0 rfl ?_
  refine Ev.ifT hM_122 rfl (cI_neT c1) ?_
  refine Ev.run (c' := (24, [.ref 27, .int x1, .int x2, .int x3, jk, jk, jk, jk, jk, jk, jk], [.int (-1 : Int32), .int x2, .ref 27], hp E w1)) hM_122 3 rfl ?_
  refine Ev.icF hM_122 rfl (cI_neF c2) ?_
  refine Ev.run (c' := (32, [.ref 27, .int x1, .int x2, .int x3, jk, jk, jk, jk, jk, jk, jk], [.int (1 : Int32), .ref 27], hp E w1)) hM_122 2 rfl ?_
  refine Ev.callR hd hM_122 rfl (y := 118) (as := [.ref 27, .int (1 : Int32)]) (rest := []) rfl (Nat.le_of_ble_eq_true rfl) h2 ?_
  refine Ev.run (c' := (37, [.ref 27, .int x1, .int x2, .int x3, jk, jk, jk, jk, jk, jk, jk], [.int (-1 : Int32), .int x2], hp E w2)) hM_122 2 rfl ?_
  refine Ev.icT hM_122 rfl (cI_neT c3) ?_
  refine Ev.run (c' := (56, [.ref 27, .int x1, .int x2, .int x3, .int x2, jk, jk, jk, jk, jk, jk], [.int x3, .int x2, .int x1, .ref 33], hp E w2)) hM_122 7 rfl ?_
  refine Ev.callR hd hM_122 rfl (y := 113) (as := [.int x1, .int x2, .int x3]) (rest := [.ref 33]) rfl (Nat.le_of_ble_eq_true rfl) (place_spec) ?_
  refine Ev.run (c' := (59, [.ref 27, .int x1, .int x2, .int x3, .int x2, jk, jk, jk, jk, jk, jk], [.int ((((x1 * (10 : Int32)) + x2) * (9 : Int32)) + x3), .ref 33], hp E w2)) hM_122 0 rfl ?_
  rw [g1]
  refine Ev.iald hM_122 rfl (a := 33) rfl (inb_I b1 (by decide)) ?_
  rw [I_clamp (Nat.lt_of_lt_of_le b1 (by decide))]
  refine Ev.run (c' := (64, [.ref 27, .int x1, .int x2, .int x3, .int x2, .int (gA w2 15 j1), jk, jk, jk, jk, jk], [.int (gA w2 15 j1)], hp E w2)) hM_122 2 rfl ?_
  refine Ev.ifT hM_122 rfl (cI_eqT c4) ?_
  refine Ev.run (c' := (75, [.ref 27, .int x1, .int x2, .int x3, .int x2, .int (gA w2 15 j1), jk, jk, jk, jk, jk], [.int (-1 : Int32)], hp E w2)) hM_122 1 rfl ?_
  exact Ev.fin hM_122 rfl rfl
theorem p122_e_h {E : Nat × (Nat → Int32)} {w : Wd} {d : Nat} {x1 x2 x3 : Int32} {w1 : Wd} {v1 : Int32} {w2 : Wd} {j1 : Nat} (hd : 1 ≤ d) (h1 : Ev (d - 1) 119 (ent0 119 [.ref 27, .int x1, .int x2, .int x3] (hp E (sF 8 (0 : Int32) w))) (.inl (some (.int v1)), hp E w1)) (c1 : ¬ v1 = 0) (c2 : ¬ x2 = (-1 : Int32)) (h2 : Ev (d - 1) 118 (ent0 118 [.ref 27, .int (0 : Int32)] (hp E w1)) (.inl none, hp E w2)) (c3 : x2 = (-1 : Int32)) (g1 : ((((x1 * (10 : Int32)) + (9 : Int32)) * (9 : Int32)) + x3) = I j1) (b1 : j1 < 810) (c4 : ¬ (gA w2 15 j1) = 0) (c5 : (gA w2 15 j1) = (99 : Int32)) : Ev d 122 (ent0 122 [.ref 27, .int x1, .int x2, .int x3] (hp E w)) (.inl (some (.int (-1 : Int32))), hp E w2) := by
  refine Ev.run (c' := (9, [.ref 27, .int x1, .int x2, .int x3, jk, jk, jk, jk, jk, jk, jk], [.int x3, .int x2, .int x1, .ref 27], hp E (sF 8 (0 : Int32) w))) hM_122 7 rfl ?_
  refine Ev.callR hd hM_122 rfl (y := 119) (as := [.ref 27, .int x1, .int x2, .int x3]) (rest := []) rfl (Nat.le_of_ble_eq_true rfl) h1 ?_
  refine Ev.run (c' := (12, [.ref 27, .int x1, .int x2, .int x3, jk, jk, jk, jk, jk, jk, jk], [.int v1], hp E w1)) hM_122 0 rfl ?_
  refine Ev.ifT hM_122 rfl (cI_neT c1) ?_
  refine Ev.run (c' := (24, [.ref 27, .int x1, .int x2, .int x3, jk, jk, jk, jk, jk, jk, jk], [.int (-1 : Int32), .int x2, .ref 27], hp E w1)) hM_122 3 rfl ?_
  refine Ev.icT hM_122 rfl (cI_neT c2) ?_
  refine Ev.run (c' := (32, [.ref 27, .int x1, .int x2, .int x3, jk, jk, jk, jk, jk, jk, jk], [.int (0 : Int32), .ref 27], hp E w1)) hM_122 1 rfl ?_
  refine Ev.callR hd hM_122 rfl (y := 118) (as := [.ref 27, .int (0 : Int32)]) (rest := []) rfl (Nat.le_of_ble_eq_true rfl) h2 ?_
  refine Ev.run (c' := (37, [.ref 27, .int x1, .int x2, .int x3, jk, jk, jk, jk, jk, jk, jk], [.int (-1 : Int32), .int x2], hp E w2)) hM_122 2 rfl ?_
  refine Ev.icF hM_122 rfl (cI_neF c3) ?_
  refine Ev.run (c' := (56, [.ref 27, .int x1, .int x2, .int x3, .int (9 : Int32), jk, jk, jk, jk, jk, jk], [.int x3, .int (9 : Int32), .int x1, .ref 33], hp E w2)) hM_122 8 rfl ?_
  refine Ev.callR hd hM_122 rfl (y := 113) (as := [.int x1, .int (9 : Int32), .int x3]) (rest := [.ref 33]) rfl (Nat.le_of_ble_eq_true rfl) (place_spec) ?_
  refine Ev.run (c' := (59, [.ref 27, .int x1, .int x2, .int x3, .int (9 : Int32), jk, jk, jk, jk, jk, jk], [.int ((((x1 * (10 : Int32)) + (9 : Int32)) * (9 : Int32)) + x3), .ref 33], hp E w2)) hM_122 0 rfl ?_
  rw [g1]
  refine Ev.iald hM_122 rfl (a := 33) rfl (inb_I b1 (by decide)) ?_
  rw [I_clamp (Nat.lt_of_lt_of_le b1 (by decide))]
  refine Ev.run (c' := (64, [.ref 27, .int x1, .int x2, .int x3, .int (9 : Int32), .int (gA w2 15 j1), jk, jk, jk, jk, jk], [.int (gA w2 15 j1)], hp E w2)) hM_122 2 rfl ?_
  refine Ev.ifF hM_122 rfl (cI_eqF c4) ?_
  refine Ev.run (c' := (71, [.ref 27, .int x1, .int x2, .int x3, .int (9 : Int32), .int (gA w2 15 j1), jk, jk, jk, jk, jk], [.int (99 : Int32), .int (gA w2 15 j1)], hp E w2)) hM_122 2 rfl ?_
  refine Ev.icF hM_122 rfl (cI_neF c5) ?_
  refine Ev.run (c' := (75, [.ref 27, .int x1, .int x2, .int x3, .int (9 : Int32), .int (gA w2 15 j1), jk, jk, jk, jk, jk], [.int (-1 : Int32)], hp E w2)) hM_122 1 rfl ?_
  exact Ev.fin hM_122 rfl rfl
theorem p122_e_i {E : Nat × (Nat → Int32)} {w : Wd} {d : Nat} {x1 x2 x3 : Int32} {o : Ou} {w1 : Wd} {v1 : Int32} {w2 : Wd} {j1 : Nat} {y5 : Int32} (hd : 1 ≤ d) (h1 : Ev (d - 1) 119 (ent0 119 [.ref 27, .int x1, .int x2, .int x3] (hp E (sF 8 (0 : Int32) w))) (.inl (some (.int v1)), hp E w1)) (c1 : ¬ v1 = 0) (c2 : ¬ x2 = (-1 : Int32)) (h2 : Ev (d - 1) 118 (ent0 118 [.ref 27, .int (0 : Int32)] (hp E w1)) (.inl none, hp E w2)) (c3 : x2 = (-1 : Int32)) (g1 : ((((x1 * (10 : Int32)) + (9 : Int32)) * (9 : Int32)) + x3) = I j1) (b1 : j1 < 810) (c4 : ¬ (gA w2 15 j1) = 0) (c5 : ¬ (gA w2 15 j1) = (99 : Int32)) (q5 : (gA w2 15 j1) = y5) (e : Ev d 122 (84, [.ref 27, .int x1, .int x2, .int x3, .int (9 : Int32), .int y5, .int (1000 : Int32), .int (0 : Int32), jk, jk, jk], [], hp E w2) o) : Ev d 122 (ent0 122 [.ref 27, .int x1, .int x2, .int x3] (hp E w)) o := by
  subst q5
  refine Ev.run (c' := (9, [.ref 27, .int x1, .int x2, .int x3, jk, jk, jk, jk, jk, jk, jk], [.int x3, .int x2, .int x1, .ref 27], hp E (sF 8 (0 : Int32) w))) hM_122 7 rfl ?_
  refine Ev.callR hd hM_122 rfl (y := 119) (as := [.ref 27, .int x1, .int x2, .int x3]) (rest := []) rfl (Nat.le_of_ble_eq_true rfl) h1 ?_
  refine Ev.run (c' := (12, [.ref 27, .int x1, .int x2, .int x3, jk, jk, jk, jk, jk, jk, jk], [.int v1], hp E w1)) hM_122 0 rfl ?_
  refine Ev.ifT hM_122 rfl (cI_neT c1) ?_
  refine Ev.run (c' := (24, [.ref 27, .int x1, .int x2, .int x3, jk, jk, jk, jk, jk, jk, jk], [.int (-1 : Int32), .int x2, .ref 27], hp E w1)) hM_122 3 rfl ?_
  refine Ev.icT hM_122 rfl (cI_neT c2) ?_
  refine Ev.run (c' := (32, [.ref 27, .int x1, .int x2, .int x3, jk, jk, jk, jk, jk, jk, jk], [.int (0 : Int32), .ref 27], hp E w1)) hM_122 1 rfl ?_
  refine Ev.callR hd hM_122 rfl (y := 118) (as := [.ref 27, .int (0 : Int32)]) (rest := []) rfl (Nat.le_of_ble_eq_true rfl) h2 ?_
  refine Ev.run (c' := (37, [.ref 27, .int x1, .int x2, .int x3, jk, jk, jk, jk, jk, jk, jk], [.int (-1 : Int32), .int x2], hp E w2)) hM_122 2 rfl ?_
  refine Ev.icF hM_122 rfl (cI_neF c3) ?_
  refine Ev.run (c' := (56, [.ref 27, .int x1, .int x2, .int x3, .int (9 : Int32), jk, jk, jk, jk, jk, jk], [.int x3, .int (9 : Int32), .int x1, .ref 33], hp E w2)) hM_122 8 rfl ?_
  refine Ev.callR hd hM_122 rfl (y := 113) (as := [.int x1, .int (9 : Int32), .int x3]) (rest := [.ref 33]) rfl (Nat.le_of_ble_eq_true rfl) (place_spec) ?_
  refine Ev.run (c' := (59, [.ref 27, .int x1, .int x2, .int x3, .int (9 : Int32), jk, jk, jk, jk, jk, jk], [.int ((((x1 * (10 : Int32)) + (9 : Int32)) * (9 : Int32)) + x3), .ref 33], hp E w2)) hM_122 0 rfl ?_
  rw [g1]
  refine Ev.iald hM_122 rfl (a := 33) rfl (inb_I b1 (by decide)) ?_
  rw [I_clamp (Nat.lt_of_lt_of_le b1 (by decide))]
  refine Ev.run (c' := (64, [.ref 27, .int x1, .int x2, .int x3, .int (9 : Int32), .int (gA w2 15 j1), jk, jk, jk, jk, jk], [.int (gA w2 15 j1)], hp E w2)) hM_122 2 rfl ?_
  refine Ev.ifF hM_122 rfl (cI_eqF c4) ?_
  refine Ev.run (c' := (71, [.ref 27, .int x1, .int x2, .int x3, .int (9 : Int32), .int (gA w2 15 j1), jk, jk, jk, jk, jk], [.int (99 : Int32), .int (gA w2 15 j1)], hp E w2)) hM_122 2 rfl ?_
  refine Ev.icT hM_122 rfl (cI_neT c5) ?_
  refine Ev.run (c' := (84, [.ref 27, .int x1, .int x2, .int x3, .int (9 : Int32), .int (gA w2 15 j1), .int (1000 : Int32), .int (0 : Int32), jk, jk, jk], [], hp E w2)) hM_122 4 rfl ?_
  exact e
theorem p122_e_j {E : Nat × (Nat → Int32)} {w : Wd} {d : Nat} {x1 x2 x3 : Int32} {w1 : Wd} {v1 : Int32} {w2 : Wd} {j1 : Nat} (hd : 1 ≤ d) (h1 : Ev (d - 1) 119 (ent0 119 [.ref 27, .int x1, .int x2, .int x3] (hp E (sF 8 (0 : Int32) w))) (.inl (some (.int v1)), hp E w1)) (c1 : ¬ v1 = 0) (c2 : ¬ x2 = (-1 : Int32)) (h2 : Ev (d - 1) 118 (ent0 118 [.ref 27, .int (0 : Int32)] (hp E w1)) (.inl none, hp E w2)) (c3 : x2 = (-1 : Int32)) (g1 : ((((x1 * (10 : Int32)) + (9 : Int32)) * (9 : Int32)) + x3) = I j1) (b1 : j1 < 810) (c4 : (gA w2 15 j1) = 0) : Ev d 122 (ent0 122 [.ref 27, .int x1, .int x2, .int x3] (hp E w)) (.inl (some (.int (-1 : Int32))), hp E w2) := by
  refine Ev.run (c' := (9, [.ref 27, .int x1, .int x2, .int x3, jk, jk, jk, jk, jk, jk, jk], [.int x3, .int x2, .int x1, .ref 27], hp E (sF 8 (0 : Int32) w))) hM_122 7 rfl ?_
  refine Ev.callR hd hM_122 rfl (y := 119) (as := [.ref 27, .int x1, .int x2, .int x3]) (rest := []) rfl (Nat.le_of_ble_eq_true rfl) h1 ?_
  refine Ev.run (c' := (12, [.ref 27, .int x1, .int x2, .int x3, jk, jk, jk, jk, jk, jk, jk], [.int v1], hp E w1)) hM_122 0 rfl ?_
  refine Ev.ifT hM_122 rfl (cI_neT c1) ?_
  refine Ev.run (c' := (24, [.ref 27, .int x1, .int x2, .int x3, jk, jk, jk, jk, jk, jk, jk], [.int (-1 : Int32), .int x2, .ref 27], hp E w1)) hM_122 3 rfl ?_
  refine Ev.icT hM_122 rfl (cI_neT c2) ?_
  refine Ev.run (c' := (32, [.ref 27, .int x1, .int x2, .int x3, jk, jk, jk, jk, jk, jk, jk], [.int (0 : Int32), .ref 27], hp E w1)) hM_122 1 rfl ?_
  refine Ev.callR hd hM_122 rfl (y := 118) (as := [.ref 27, .int (0 : Int32)]) (rest := []) rfl (Nat.le_of_ble_eq_true rfl) h2 ?_
  refine Ev.run (c' := (37, [.ref 27, .int x1, .int x2, .int x3, jk, jk, jk, jk, jk, jk, jk], [.int (-1 : Int32), .int x2], hp E w2)) hM_122 2 rfl ?_
  refine Ev.icF hM_122 rfl (cI_neF c3) ?_
  refine Ev.run (c' := (56, [.ref 27, .int x1, .int x2, .int x3, .int (9 : Int32), jk, jk, jk, jk, jk, jk], [.int x3, .int (9 : Int32), .int x1, .ref 33], hp E w2)) hM_122 8 rfl ?_
  refine Ev.callR hd hM_122 rfl (y := 113) (as := [.int x1, .int (9 : Int32), .int x3]) (rest := [.ref 33]) rfl (Nat.le_of_ble_eq_true rfl) (place_spec) ?_
  refine Ev.run (c' := (59, [.ref 27, .int x1, .int x2, .int x3, .int (9 : Int32), jk, jk, jk, jk, jk, jk], [.int ((((x1 * (10 : Int32)) + (9 : Int32)) * (9 : Int32)) + x3), .ref 33], hp E w2)) hM_122 0 rfl ?_
  rw [g1]
  refine Ev.iald hM_122 rfl (a := 33) rfl (inb_I b1 (by decide)) ?_
  rw [I_clamp (Nat.lt_of_lt_of_le b1 (by decide))]
  refine Ev.run (c' := (64, [.ref 27, .int x1, .int x2, .int x3, .int (9 : Int32), .int (gA w2 15 j1), jk, jk, jk, jk, jk], [.int (gA w2 15 j1)], hp E w2)) hM_122 2 rfl ?_
  refine Ev.ifT hM_122 rfl (cI_eqT c4) ?_
  refine Ev.run (c' := (75, [.ref 27, .int x1, .int x2, .int x3, .int (9 : Int32), .int (gA w2 15 j1), jk, jk, jk, jk, jk], [.int (-1 : Int32)], hp E w2)) hM_122 1 rfl ?_
  exact Ev.fin hM_122 rfl rfl
theorem p122_e_k {E : Nat × (Nat → Int32)} {w : Wd} {d : Nat} {x1 x2 x3 : Int32} {w1 : Wd} {v1 : Int32} {w2 : Wd} {j1 : Nat} (hd : 1 ≤ d) (h1 : Ev (d - 1) 119 (ent0 119 [.ref 27, .int x1, .int x2, .int x3] (hp E (sF 8 (0 : Int32) w))) (.inl (some (.int v1)), hp E w1)) (c1 : ¬ v1 = 0) (c2 : ¬ x2 = (-1 : Int32)) (h2 : Ev (d - 1) 118 (ent0 118 [.ref 27, .int (0 : Int32)] (hp E w1)) (.inl none, hp E w2)) (c3 : ¬ x2 = (-1 : Int32)) (g1 : ((((x1 * (10 : Int32)) + x2) * (9 : Int32)) + x3) = I j1) (b1 : j1 < 810) (c4 : ¬ (gA w2 15 j1) = 0) (c5 : (gA w2 15 j1) = (99 : Int32)) : Ev d 122 (ent0 122 [.ref 27, .int x1, .int x2, .int x3] (hp E w)) (.inl (some (.int (-1 : Int32))), hp E w2) := by
  refine Ev.run (c' := (9, [.ref 27, .int x1, .int x2, .int x3, jk, jk, jk, jk, jk, jk, jk], [.int x3, .int x2, .int x1, .ref 27], hp E (sF 8 (0 : Int32) w))) hM_122 7 rfl ?_
  refine Ev.callR hd hM_122 rfl (y := 119) (as := [.ref 27, .int x1, .int x2, .int x3]) (rest := []) rfl (Nat.le_of_ble_eq_true rfl) h1 ?_
  refine Ev.run (c' := (12, [.ref 27, .int x1, .int x2, .int x3, jk, jk, jk, jk, jk, jk, jk], [.int v1], hp E w1)) hM_122 0 rfl ?_
  refine Ev.ifT hM_122 rfl (cI_neT c1) ?_
  refine Ev.run (c' := (24, [.ref 27, .int x1, .int x2, .int x3, jk, jk, jk, jk, jk, jk, jk], [.int (-1 : Int32), .int x2, .ref 27], hp E w1)) hM_122 3 rfl ?_
  refine Ev.icT hM_122 rfl (cI_neT c2) ?_
  refine Ev.run (c' := (32, [.ref 27, .int x1, .int x2, .int x3, jk, jk, jk, jk, jk, jk, jk], [.int (0 : Int32), .ref 27], hp E w1)) hM_122 1 rfl ?_
  refine Ev.callR hd hM_122 rfl (y := 118) (as := [.ref 27, .int (0 : Int32)]) (rest := []) rfl (Nat.le_of_ble_eq_true rfl) h2 ?_
  refine Ev.run (c' := (37, [.ref 27, .int x1, .int x2, .int x3, jk, jk, jk, jk, jk, jk, jk], [.int (-1 : Int32), .int x2], hp E w2)) hM_122 2 rfl ?_
  refine Ev.icT hM_122 rfl (cI_neT c3) ?_
  refine Ev.run (c' := (56, [.ref 27, .int x1, .int x2, .int x3, .int x2, jk, jk, jk, jk, jk, jk], [.int x3, .int x2, .int x1, .ref 33], hp E w2)) hM_122 7 rfl ?_
  refine Ev.callR hd hM_122 rfl (y := 113) (as := [.int x1, .int x2, .int x3]) (rest := [.ref 33]) rfl (Nat.le_of_ble_eq_true rfl) (place_spec) ?_
  refine Ev.run (c' := (59, [.ref 27, .int x1, .int x2, .int x3, .int x2, jk, jk, jk, jk, jk, jk], [.int ((((x1 * (10 : Int32)) + x2) * (9 : Int32)) + x3), .ref 33], hp E w2)) hM_122 0 rfl ?_
  rw [g1]
  refine Ev.iald hM_122 rfl (a := 33) rfl (inb_I b1 (by decide)) ?_
  rw [I_clamp (Nat.lt_of_lt_of_le b1 (by decide))]
  refine Ev.run (c' := (64, [.ref 27, .int x1, .int x2, .int x3, .int x2, .int (gA w2 15 j1), jk, jk, jk, jk, jk], [.int (gA w2 15 j1)], hp E w2)) hM_122 2 rfl ?_
  refine Ev.ifF hM_122 rfl (cI_eqF c4) ?_
  refine Ev.run (c' := (71, [.ref 27, .int x1, .int x2, .int x3, .int x2, .int (gA w2 15 j1), jk, jk, jk, jk, jk], [.int (99 : Int32), .int (gA w2 15 j1)], hp E w2)) hM_122 2 rfl ?_
  refine Ev.icF hM_122 rfl (cI_neF c5) ?_
  refine Ev.run (c' := (75, [.ref 27, .int x1, .int x2, .int x3, .int x2, .int (gA w2 15 j1), jk, jk, jk, jk, jk], [.int (-1 : Int32)], hp E w2)) hM_122 1 rfl ?_
  exact Ev.fin hM_122 rfl rfl
theorem p122_e_l {E : Nat × (Nat → Int32)} {w : Wd} {d : Nat} {x1 x2 x3 : Int32} {o : Ou} {w1 : Wd} {v1 : Int32} {w2 : Wd} {j1 : Nat} {y5 : Int32} (hd : 1 ≤ d) (h1 : Ev (d - 1) 119 (ent0 119 [.ref 27, .int x1, .int x2, .int x3] (hp E (sF 8 (0 : Int32) w))) (.inl (some (.int v1)), hp E w1)) (c1 : ¬ v1 = 0) (c2 : ¬ x2 = (-1 : Int32)) (h2 : Ev (d - 1) 118 (ent0 118 [.ref 27, .int (0 : Int32)] (hp E w1)) (.inl none, hp E w2)) (c3 : ¬ x2 = (-1 : Int32)) (g1 : ((((x1 * (10 : Int32)) + x2) * (9 : Int32)) + x3) = I j1) (b1 : j1 < 810) (c4 : ¬ (gA w2 15 j1) = 0) (c5 : ¬ (gA w2 15 j1) = (99 : Int32)) (q5 : (gA w2 15 j1) = y5) (e : Ev d 122 (84, [.ref 27, .int x1, .int x2, .int x3, .int x2, .int y5, .int (1000 : Int32), .int (0 : Int32), jk, jk, jk], [], hp E w2) o) : Ev d 122 (ent0 122 [.ref 27, .int x1, .int x2, .int x3] (hp E w)) o := by
  subst q5
  refine Ev.run (c' := (9, [.ref 27, .int x1, .int x2, .int x3, jk, jk, jk, jk, jk, jk, jk], [.int x3, .int x2, .int x1, .ref 27], hp E (sF 8 (0 : Int32) w))) hM_122 7 rfl ?_
  refine Ev.callR hd hM_122 rfl (y := 119) (as := [.ref 27, .int x1, .int x2, .int x3]) (rest := []) rfl (Nat.le_of_ble_eq_true rfl) h1 ?_
  refine Ev.run (c' := (12, [.ref 27, .int x1, .int x2, .int x3, jk, jk, jk, jk, jk, jk, jk], [.int v1], hp E w1)) hM_122 0 rfl ?_
  refine Ev.ifT hM_122 rfl (cI_neT c1) ?_
  refine Ev.run (c' := (24, [.ref 27, .int x1, .int x2, .int x3, jk, jk, jk, jk, jk, jk, jk], [.int (-1 : Int32), .int x2, .ref 27], hp E w1)) hM_122 3 rfl ?_
  refine Ev.icT hM_122 rfl (cI_neT c2) ?_
  refine Ev.run (c' := (32, [.ref 27, .int x1, .int x2, .int x3, jk, jk, jk, jk, jk, jk, jk], [.int (0 : Int32), .ref 27], hp E w1)) hM_122 1 rfl ?_
  refine Ev.callR hd hM_122 rfl (y := 118) (as := [.ref 27, .int (0 : Int32)]) (rest := []) rfl (Nat.le_of_ble_eq_true rfl) h2 ?_
  refine Ev.run (c' := (37, [.ref 27, .int x1, .int x2, .int x3, jk, jk, jk, jk, jk, jk, jk], [.int (-1 : Int32), .int x2], hp E w2)) hM_122 2 rfl ?_
  refine Ev.icT hM_122 rfl (cI_neT c3) ?_
  refine Ev.run (c' := (56, [.ref 27, .int x1, .int x2, .int x3, .int x2, jk, jk, jk, jk, jk, jk], [.int x3, .int x2, .int x1, .ref 33], hp E w2)) hM_122 7 rfl ?_
  refine Ev.callR hd hM_122 rfl (y := 113) (as := [.int x1, .int x2, .int x3]) (rest := [.ref 33]) rfl (Nat.le_of_ble_eq_true rfl) (place_spec) ?_
  refine Ev.run (c' := (59, [.ref 27, .int x1, .int x2, .int x3, .int x2, jk, jk, jk, jk, jk, jk], [.int ((((x1 * (10 : Int32)) + x2) * (9 : Int32)) + x3), .ref 33], hp E w2)) hM_122 0 rfl ?_
  rw [g1]
  refine Ev.iald hM_122 rfl (a := 33) rfl (inb_I b1 (by decide)) ?_
  rw [I_clamp (Nat.lt_of_lt_of_le b1 (by decide))]
  refine Ev.run (c' := (64, [.ref 27, .int x1, .int x2, .int x3, .int x2, .int (gA w2 15 j1), jk, jk, jk, jk, jk], [.int (gA w2 15 j1)], hp E w2)) hM_122 2 rfl ?_
  refine Ev.ifF hM_122 rfl (cI_eqF c4) ?_
  refine Ev.run (c' := (71, [.ref 27, .int x1, .int x2, .int x3, .int x2, .int (gA w2 15 j1), jk, jk, jk, jk, jk], [.int (99 : Int32), .int (gA w2 15 j1)], hp E w2)) hM_122 2 rfl ?_
  refine Ev.icT hM_122 rfl (cI_neT c5) ?_
  refine Ev.run (c' := (84, [.ref 27, .int x1, .int x2, .int x3, .int x2, .int (gA w2 15 j1), .int (1000 : Int32), .int (0 : Int32), jk, jk, jk], [], hp E w2)) hM_122 4 rfl ?_
  exact e
theorem p122_e_m {E : Nat × (Nat → Int32)} {w : Wd} {d : Nat} {x1 x2 x3 : Int32} {w1 : Wd} {v1 : Int32} {w2 : Wd} {j1 : Nat} (hd : 1 ≤ d) (h1 : Ev (d - 1) 119 (ent0 119 [.ref 27, .int x1, .int x2, .int x3] (hp E (sF 8 (0 : Int32) w))) (.inl (some (.int v1)), hp E w1)) (c1 : ¬ v1 = 0) (c2 : ¬ x2 = (-1 : Int32)) (h2 : Ev (d - 1) 118 (ent0 118 [.ref 27, .int (0 : Int32)] (hp E w1)) (.inl none, hp E w2)) (c3 : ¬ x2 = (-1 : Int32)) (g1 : ((((x1 * (10 : Int32)) + x2) * (9 : Int32)) + x3) = I j1) (b1 : j1 < 810) (c4 : (gA w2 15 j1) = 0) : Ev d 122 (ent0 122 [.ref 27, .int x1, .int x2, .int x3] (hp E w)) (.inl (some (.int (-1 : Int32))), hp E w2) := by
  refine Ev.run (c' := (9, [.ref 27, .int x1, .int x2, .int x3, jk, jk, jk, jk, jk, jk, jk], [.int x3, .int x2, .int x1, .ref 27], hp E (sF 8 (0 : Int32) w))) hM_122 7 rfl ?_
  refine Ev.callR hd hM_122 rfl (y := 119) (as := [.ref 27, .int x1, .int x2, .int x3]) (rest := []) rfl (Nat.le_of_ble_eq_true rfl) h1 ?_
  refine Ev.run (c' := (12, [.ref 27, .int x1, .int x2, .int x3, jk, jk, jk, jk, jk, jk, jk], [.int v1], hp E w1)) hM_122 0 rfl ?_
  refine Ev.ifT hM_122 rfl (cI_neT c1) ?_
  refine Ev.run (c' := (24, [.ref 27, .int x1, .int x2, .int x3, jk, jk, jk, jk, jk, jk, jk], [.int (-1 : Int32), .int x2, .ref 27], hp E w1)) hM_122 3 rfl ?_
  refine Ev.icT hM_122 rfl (cI_neT c2) ?_
  refine Ev.run (c' := (32, [.ref 27, .int x1, .int x2, .int x3, jk, jk, jk, jk, jk, jk, jk], [.int (0 : Int32), .ref 27], hp E w1)) hM_122 1 rfl ?_
  refine Ev.callR hd hM_122 rfl (y := 118) (as := [.ref 27, .int (0 : Int32)]) (rest := []) rfl (Nat.le_of_ble_eq_true rfl) h2 ?_
  refine Ev.run (c' := (37, [.ref 27, .int x1, .int x2, .int x3, jk, jk, jk, jk, jk, jk, jk], [.int (-1 : Int32), .int x2], hp E w2)) hM_122 2 rfl ?_
  refine Ev.icT hM_122 rfl (cI_neT c3) ?_
  refine Ev.run (c' := (56, [.ref 27, .int x1, .int x2, .int x3, .int x2, jk, jk, jk, jk, jk, jk], [.int x3, .int x2, .int x1, .ref 33], hp E w2)) hM_122 7 rfl ?_
  refine Ev.callR hd hM_122 rfl (y := 113) (as := [.int x1, .int x2, .int x3]) (rest := [.ref 33]) rfl (Nat.le_of_ble_eq_true rfl) (place_spec) ?_
  refine Ev.run (c' := (59, [.ref 27, .int x1, .int x2, .int x3, .int x2, jk, jk, jk, jk, jk, jk], [.int ((((x1 * (10 : Int32)) + x2) * (9 : Int32)) + x3), .ref 33], hp E w2)) hM_122 0 rfl ?_
  rw [g1]
  refine Ev.iald hM_122 rfl (a := 33) rfl (inb_I b1 (by decide)) ?_
  rw [I_clamp (Nat.lt_of_lt_of_le b1 (by decide))]
  refine Ev.run (c' := (64, [.ref 27, .int x1, .int x2, .int x3, .int x2, .int (gA w2 15 j1), jk, jk, jk, jk, jk], [.int (gA w2 15 j1)], hp E w2)) hM_122 2 rfl ?_
  refine Ev.ifT hM_122 rfl (cI_eqT c4) ?_
  refine Ev.run (c' := (75, [.ref 27, .int x1, .int x2, .int x3, .int x2, .int (gA w2 15 j1), jk, jk, jk, jk, jk], [.int (-1 : Int32)], hp E w2)) hM_122 1 rfl ?_
  exact Ev.fin hM_122 rfl rfl
theorem p122_84_a {E : Nat × (Nat → Int32)} {w : Wd} {d : Nat} {x1 x2 x3 x4 x5 x6 x7 : Int32} {u8 u9 u10 : Value} {o : Ou}  (c1 : x7 < (gF w 9)) (e : Ev d 122 (96, [.ref 27, .int x1, .int x2, .int x3, .int x4, .int x5, .int x6, .int x7, .int (0 : Int32), u9, u10], [], hp E w) o) : Ev d 122 (84, [.ref 27, .int x1, .int x2, .int x3, .int x4, .int x5, .int x6, .int x7, u8, u9, u10], [], hp E w) o := by
  refine Ev.run (c' := (90, [.ref 27, .int x1, .int x2, .int x3, .int x4, .int x5, .int x6, .int x7, u8, u9, u10], [.int (gF w 9), .int x7], hp E w)) hM_122 3 rfl ?_
  refine Ev.icF hM_122 rfl (cI_geF c1) ?_
  refine Ev.run (c' := (96, [.ref 27, .int x1, .int x2, .int x3, .int x4, .int x5, .int x6, .int x7, .int (0 : Int32), u9, u10], [], hp E w)) hM_122 2 rfl ?_
  exact e
theorem p122_84_b {E : Nat × (Nat → Int32)} {w : Wd} {d : Nat} {x1 x2 x3 x4 x5 x6 x7 : Int32} {u8 u9 u10 : Value}  (c1 : ¬ x7 < (gF w 9)) : Ev d 122 (84, [.ref 27, .int x1, .int x2, .int x3, .int x4, .int x5, .int x6, .int x7, u8, u9, u10], [], hp E w) (.inl (some (.int x6)), hp E w) := by
  refine Ev.run (c' := (90, [.ref 27, .int x1, .int x2, .int x3, .int x4, .int x5, .int x6, .int x7, u8, u9, u10], [.int (gF w 9), .int x7], hp E w)) hM_122 3 rfl ?_
  refine Ev.icT hM_122 rfl (cI_geT c1) ?_
  refine Ev.run (c' := (242, [.ref 27, .int x1, .int x2, .int x3, .int x4, .int x5, .int x6, .int x7, u8, u9, u10], [.int x6], hp E w)) hM_122 1 rfl ?_
  exact Ev.fin hM_122 rfl rfl
theorem p122_96_a {E : Nat × (Nat → Int32)} {w : Wd} {d : Nat} {x1 x2 x3 x4 x5 x6 x7 x8 : Int32} {u9 u10 : Value} {o : Ou} {w1 : Wd} {v1 : Int32} {w2 : Wd} {v2 : Int32} (hd : 1 ≤ d) (c1 : ¬ (9 : Int32) < x8) (h1 : Ev (d - 1) 114 (ent0 114 [.ref 27, .int x1, .int x7] (hp E w)) (.inl (some (.int v1)), hp E w1)) (c2 : ¬ v1 = 0) (c3 : ¬ x8 < (gF w1 9)) (c4 : x8 = (9 : Int32)) (h2 : Ev (d - 1) 115 (ent0 115 [.ref 27, .int x4, .int x8] (hp E w1)) (.inl (some (.int v2)), hp E w2)) (c5 : ¬ v2 = 0) (e : Ev d 122 (147, [.ref 27, .int x1, .int x2, .int x3, .int x4, .int x5, .int x6, .int x7, .int x8, .int (1 : Int32), u10], [], hp E w2) o) : Ev d 122 (96, [.ref 27, .int x1, .int x2, .int x3, .int x4, .int x5, .int x6, .int x7, .int x8, u9, u10], [], hp E w) o := by
  refine Ev.run (c' := (100, [.ref 27, .int x1, .int x2, .int x3, .int x4, .int x5, .int x6, .int x7, .int x8, u9, u10], [.int (9 : Int32), .int x8], hp E w)) hM_122 2 rfl ?_
  refine Ev.icF hM_122 rfl (cI_gtF c1) ?_
  refine Ev.run (c' := (107, [.ref 27, .int x1, .int x2, .int x3, .int x4, .int x5, .int x6, .int x7, .int x8, u9, u10], [.int x7, .int x1, .ref 27], hp E w)) hM_122 3 rfl ?_
  refine Ev.callR hd hM_122 rfl (y := 114) (as := [.ref 27, .int x1, .int x7]) (rest := []) rfl (Nat.le_of_ble_eq_true rfl) h1 ?_
  refine Ev.run (c' := (110, [.ref 27, .int x1, .int x2, .int x3, .int x4, .int x5, .int x6, .int x7, .int x8, u9, u10], [.int v1], hp E w1)) hM_122 0 rfl ?_
  refine Ev.ifF hM_122 rfl (cI_eqF c2) ?_
  refine Ev.run (c' := (119, [.ref 27, .int x1, .int x2, .int x3, .int x4, .int x5, .int x6, .int x7, .int x8, u9, u10], [.int (gF w1 9), .int x8], hp E w1)) hM_122 3 rfl ?_
  refine Ev.icF hM_122 rfl (cI_ltF c3) ?_
  refine Ev.run (c' := (126, [.ref 27, .int x1, .int x2, .int x3, .int x4, .int x5, .int x6, .int x7, .int x8, u9, u10], [.int (9 : Int32), .int x8], hp E w1)) hM_122 2 rfl ?_
  refine Ev.icF hM_122 rfl (cI_neF c4) ?_
  refine Ev.run (c' := (134, [.ref 27, .int x1, .int x2, .int x3, .int x4, .int x5, .int x6, .int x7, .int x8, u9, u10], [.int x8, .int x4, .ref 27], hp E w1)) hM_122 3 rfl ?_
  refine Ev.callR hd hM_122 rfl (y := 115) (as := [.ref 27, .int x4, .int x8]) (rest := []) rfl (Nat.le_of_ble_eq_true rfl) h2 ?_
  refine Ev.run (c' := (137, [.ref 27, .int x1, .int x2, .int x3, .int x4, .int x5, .int x6, .int x7, .int x8, u9, u10], [.int v2], hp E w2)) hM_122 0 rfl ?_
  refine Ev.ifF hM_122 rfl (cI_eqF c5) ?_
  refine Ev.run (c' := (147, [.ref 27, .int x1, .int x2, .int x3, .int x4, .int x5, .int x6, .int x7, .int x8, .int (1 : Int32), u10], [], hp E w2)) hM_122 3 rfl ?_
  exact e
theorem p122_96_b {E : Nat × (Nat → Int32)} {w : Wd} {d : Nat} {x1 x2 x3 x4 x5 x6 x7 x8 : Int32} {u9 u10 : Value} {o : Ou} {w1 : Wd} {v1 : Int32} {w2 : Wd} {v2 : Int32} (hd : 1 ≤ d) (c1 : ¬ (9 : Int32) < x8) (h1 : Ev (d - 1) 114 (ent0 114 [.ref 27, .int x1, .int x7] (hp E w)) (.inl (some (.int v1)), hp E w1)) (c2 : ¬ v1 = 0) (c3 : ¬ x8 < (gF w1 9)) (c4 : x8 = (9 : Int32)) (h2 : Ev (d - 1) 115 (ent0 115 [.ref 27, .int x4, .int x8] (hp E w1)) (.inl (some (.int v2)), hp E w2)) (c5 : v2 = 0) (e : Ev d 122 (147, [.ref 27, .int x1, .int x2, .int x3, .int x4, .int x5, .int x6, .int x7, .int x8, .int (0 : Int32), u10], [], hp E w2) o) : Ev d 122 (96, [.ref 27, .int x1, .int x2, .int x3, .int x4, .int x5, .int x6, .int x7, .int x8, u9, u10], [], hp E w) o := by
  refine Ev.run (c' := (100, [.ref 27, .int x1, .int x2, .int x3, .int x4, .int x5, .int x6, .int x7, .int x8, u9, u10], [.int (9 : Int32), .int x8], hp E w)) hM_122 2 rfl ?_
  refine Ev.icF hM_122 rfl (cI_gtF c1) ?_
  refine Ev.run (c' := (107, [.ref 27, .int x1, .int x2, .int x3, .int x4, .int x5, .int x6, .int x7, .int x8, u9, u10], [.int x7, .int x1, .ref 27], hp E w)) hM_122 3 rfl ?_
  refine Ev.callR hd hM_122 rfl (y := 114) (as := [.ref 27, .int x1, .int x7]) (rest := []) rfl (Nat.le_of_ble_eq_true rfl) h1 ?_
  refine Ev.run (c' := (110, [.ref 27, .int x1, .int x2, .int x3, .int x4, .int x5, .int x6, .int x7, .int x8, u9, u10], [.int v1], hp E w1)) hM_122 0 rfl ?_
  refine Ev.ifF hM_122 rfl (cI_eqF c2) ?_
  refine Ev.run (c' := (119, [.ref 27, .int x1, .int x2, .int x3, .int x4, .int x5, .int x6, .int x7, .int x8, u9, u10], [.int (gF w1 9), .int x8], hp E w1)) hM_122 3 rfl ?_
  refine Ev.icF hM_122 rfl (cI_ltF c3) ?_
  refine Ev.run (c' := (126, [.ref 27, .int x1, .int x2, .int x3, .int x4, .int x5, .int x6, .int x7, .int x8, u9, u10], [.int (9 : Int32), .int x8], hp E w1)) hM_122 2 rfl ?_
  refine Ev.icF hM_122 rfl (cI_neF c4) ?_
  refine Ev.run (c' := (134, [.ref 27, .int x1, .int x2, .int x3, .int x4, .int x5, .int x6, .int x7, .int x8, u9, u10], [.int x8, .int x4, .ref 27], hp E w1)) hM_122 3 rfl ?_
  refine Ev.callR hd hM_122 rfl (y := 115) (as := [.ref 27, .int x4, .int x8]) (rest := []) rfl (Nat.le_of_ble_eq_true rfl) h2 ?_
  refine Ev.run (c' := (137, [.ref 27, .int x1, .int x2, .int x3, .int x4, .int x5, .int x6, .int x7, .int x8, u9, u10], [.int v2], hp E w2)) hM_122 0 rfl ?_
  refine Ev.ifT hM_122 rfl (cI_eqT c5) ?_
  refine Ev.run (c' := (147, [.ref 27, .int x1, .int x2, .int x3, .int x4, .int x5, .int x6, .int x7, .int x8, .int (0 : Int32), u10], [], hp E w2)) hM_122 2 rfl ?_
  exact e
theorem p122_96_c {E : Nat × (Nat → Int32)} {w : Wd} {d : Nat} {x1 x2 x3 x4 x5 x6 x7 x8 : Int32} {u9 u10 : Value} {o : Ou} {w1 : Wd} {v1 : Int32} (hd : 1 ≤ d) (c1 : ¬ (9 : Int32) < x8) (h1 : Ev (d - 1) 114 (ent0 114 [.ref 27, .int x1, .int x7] (hp E w)) (.inl (some (.int v1)), hp E w1)) (c2 : ¬ v1 = 0) (c3 : ¬ x8 < (gF w1 9)) (c4 : ¬ x8 = (9 : Int32)) (e : Ev d 122 (147, [.ref 27, .int x1, .int x2, .int x3, .int x4, .int x5, .int x6, .int x7, .int x8, .int (0 : Int32), u10], [], hp E w1) o) : Ev d 122 (96, [.ref 27, .int x1, .int x2, .int x3, .int x4, .int x5, .int x6, .int x7, .int x8, u9, u10], [], hp E w) o := by
  refine Ev.run (c' := (100, [.ref 27, .int x1, .int x2, .int x3, .int x4, .int x5, .int x6, .int x7, .int x8, u9, u10], [.int (9 : Int32), .int x8], hp E w)) hM_122 2 rfl ?_
  refine Ev.icF hM_122 rfl (cI_gtF c1) ?_
  refine Ev.run (c' := (107, [.ref 27, .int x1, .int x2, .int x3, .int x4, .int x5, .int x6, .int x7, .int x8, u9, u10], [.int x7, .int x1, .ref 27], hp E w)) hM_122 3 rfl ?_
  refine Ev.callR hd hM_122 rfl (y := 114) (as := [.ref 27, .int x1, .int x7]) (rest := []) rfl (Nat.le_of_ble_eq_true rfl) h1 ?_
  refine Ev.run (c' := (110, [.ref 27, .int x1, .int x2, .int x3, .int x4, .int x5, .int x6, .int x7, .int x8, u9, u10], [.int v1], hp E w1)) hM_122 0 rfl ?_
  refine Ev.ifF hM_122 rfl (cI_eqF c2) ?_
  refine Ev.run (c' := (119, [.ref 27, .int x1, .int x2, .int x3, .int x4, .int x5, .int x6, .int x7, .int x8, u9, u10], [.int (gF w1 9), .int x8], hp E w1)) hM_122 3 rfl ?_
  refine Ev.icF hM_122 rfl (cI_ltF c3) ?_
  refine Ev.run (c' := (126, [.ref 27, .int x1, .int x2, .int x3, .int x4, .int x5, .int x6, .int x7, .int x8, u9, u10], [.int (9 : Int32), .int x8], hp E w1)) hM_122 2 rfl ?_
  refine Ev.icT hM_122 rfl (cI_neT c4) ?_
  refine Ev.run (c' := (147, [.ref 27, .int x1, .int x2, .int x3, .int x4, .int x5, .int x6, .int x7, .int x8, .int (0 : Int32), u10], [], hp E w1)) hM_122 2 rfl ?_
  exact e
theorem p122_96_d {E : Nat × (Nat → Int32)} {w : Wd} {d : Nat} {x1 x2 x3 x4 x5 x6 x7 x8 : Int32} {u9 u10 : Value} {o : Ou} {w1 : Wd} {v1 : Int32} {w2 : Wd} {v2 : Int32} (hd : 1 ≤ d) (c1 : ¬ (9 : Int32) < x8) (h1 : Ev (d - 1) 114 (ent0 114 [.ref 27, .int x1, .int x7] (hp E w)) (.inl (some (.int v1)), hp E w1)) (c2 : ¬ v1 = 0) (c3 : x8 < (gF w1 9)) (h2 : Ev (d - 1) 115 (ent0 115 [.ref 27, .int x4, .int x8] (hp E w1)) (.inl (some (.int v2)), hp E w2)) (c4 : ¬ v2 = 0) (e : Ev d 122 (147, [.ref 27, .int x1, .int x2, .int x3, .int x4, .int x5, .int x6, .int x7, .int x8, .int (1 : Int32), u10], [], hp E w2) o) : Ev d 122 (96, [.ref 27, .int x1, .int x2, .int x3, .int x4, .int x5, .int x6, .int x7, .int x8, u9, u10], [], hp E w) o := by
  refine Ev.run (c' := (100, [.ref 27, .int x1, .int x2, .int x3, .int x4, .int x5, .int x6, .int x7, .int x8, u9, u10], [.int (9 : Int32), .int x8], hp E w)) hM_122 2 rfl ?_
  refine Ev.icF hM_122 rfl (cI_gtF c1) ?_
  refine Ev.run (c' := (107, [.ref 27, .int x1, .int x2, .int x3, .int x4, .int x5, .int x6, .int x7, .int x8, u9, u10], [.int x7, .int x1, .ref 27], hp E w)) hM_122 3 rfl ?_
  refine Ev.callR hd hM_122 rfl (y := 114) (as := [.ref 27, .int x1, .int x7]) (rest := []) rfl (Nat.le_of_ble_eq_true rfl) h1 ?_
  refine Ev.run (c' := (110, [.ref 27, .int x1, .int x2, .int x3, .int x4, .int x5, .int x6, .int x7, .int x8, u9, u10], [.int v1], hp E w1)) hM_122 0 rfl ?_
  refine Ev.ifF hM_122 rfl (cI_eqF c2) ?_
  refine Ev.run (c' := (119, [.ref 27, .int x1, .int x2, .int x3, .int x4, .int x5, .int x6, .int x7, .int x8, u9, u10], [.int (gF w1 9), .int x8], hp E w1)) hM_122 3 rfl ?_
  refine Ev.icT hM_122 rfl (cI_ltT c3) ?_
  refine Ev.run (c' := (134, [.ref 27, .int x1, .int x2, .int x3, .int x4, .int x5, .int x6, .int x7, .int x8, u9, u10], [.int x8, .int x4, .ref 27], hp E w1)) hM_122 3 rfl ?_
  refine Ev.callR hd hM_122 rfl (y := 115) (as := [.ref 27, .int x4, .int x8]) (rest := []) rfl (Nat.le_of_ble_eq_true rfl) h2 ?_
  refine Ev.run (c' := (137, [.ref 27, .int x1, .int x2, .int x3, .int x4, .int x5, .int x6, .int x7, .int x8, u9, u10], [.int v2], hp E w2)) hM_122 0 rfl ?_
  refine Ev.ifF hM_122 rfl (cI_eqF c4) ?_
  refine Ev.run (c' := (147, [.ref 27, .int x1, .int x2, .int x3, .int x4, .int x5, .int x6, .int x7, .int x8, .int (1 : Int32), u10], [], hp E w2)) hM_122 3 rfl ?_
  exact e
theorem p122_96_e {E : Nat × (Nat → Int32)} {w : Wd} {d : Nat} {x1 x2 x3 x4 x5 x6 x7 x8 : Int32} {u9 u10 : Value} {o : Ou} {w1 : Wd} {v1 : Int32} {w2 : Wd} {v2 : Int32} (hd : 1 ≤ d) (c1 : ¬ (9 : Int32) < x8) (h1 : Ev (d - 1) 114 (ent0 114 [.ref 27, .int x1, .int x7] (hp E w)) (.inl (some (.int v1)), hp E w1)) (c2 : ¬ v1 = 0) (c3 : x8 < (gF w1 9)) (h2 : Ev (d - 1) 115 (ent0 115 [.ref 27, .int x4, .int x8] (hp E w1)) (.inl (some (.int v2)), hp E w2)) (c4 : v2 = 0) (e : Ev d 122 (147, [.ref 27, .int x1, .int x2, .int x3, .int x4, .int x5, .int x6, .int x7, .int x8, .int (0 : Int32), u10], [], hp E w2) o) : Ev d 122 (96, [.ref 27, .int x1, .int x2, .int x3, .int x4, .int x5, .int x6, .int x7, .int x8, u9, u10], [], hp E w) o := by
  refine Ev.run (c' := (100, [.ref 27, .int x1, .int x2, .int x3, .int x4, .int x5, .int x6, .int x7, .int x8, u9, u10], [.int (9 : Int32), .int x8], hp E w)) hM_122 2 rfl ?_
  refine Ev.icF hM_122 rfl (cI_gtF c1) ?_
  refine Ev.run (c' := (107, [.ref 27, .int x1, .int x2, .int x3, .int x4, .int x5, .int x6, .int x7, .int x8, u9, u10], [.int x7, .int x1, .ref 27], hp E w)) hM_122 3 rfl ?_
  refine Ev.callR hd hM_122 rfl (y := 114) (as := [.ref 27, .int x1, .int x7]) (rest := []) rfl (Nat.le_of_ble_eq_true rfl) h1 ?_
  refine Ev.run (c' := (110, [.ref 27, .int x1, .int x2, .int x3, .int x4, .int x5, .int x6, .int x7, .int x8, u9, u10], [.int v1], hp E w1)) hM_122 0 rfl ?_
  refine Ev.ifF hM_122 rfl (cI_eqF c2) ?_
  refine Ev.run (c' := (119, [.ref 27, .int x1, .int x2, .int x3, .int x4, .int x5, .int x6, .int x7, .int x8, u9, u10], [.int (gF w1 9), .int x8], hp E w1)) hM_122 3 rfl ?_
  refine Ev.icT hM_122 rfl (cI_ltT c3) ?_
  refine Ev.run (c' := (134, [.ref 27, .int x1, .int x2, .int x3, .int x4, .int x5, .int x6, .int x7, .int x8, u9, u10], [.int x8, .int x4, .ref 27], hp E w1)) hM_122 3 rfl ?_
  refine Ev.callR hd hM_122 rfl (y := 115) (as := [.ref 27, .int x4, .int x8]) (rest := []) rfl (Nat.le_of_ble_eq_true rfl) h2 ?_
  refine Ev.run (c' := (137, [.ref 27, .int x1, .int x2, .int x3, .int x4, .int x5, .int x6, .int x7, .int x8, u9, u10], [.int v2], hp E w2)) hM_122 0 rfl ?_
  refine Ev.ifT hM_122 rfl (cI_eqT c4) ?_
  refine Ev.run (c' := (147, [.ref 27, .int x1, .int x2, .int x3, .int x4, .int x5, .int x6, .int x7, .int x8, .int (0 : Int32), u10], [], hp E w2)) hM_122 2 rfl ?_
  exact e
theorem p122_96_f {E : Nat × (Nat → Int32)} {w : Wd} {d : Nat} {x1 x2 x3 x4 x5 x6 x7 x8 : Int32} {u9 u10 : Value} {o : Ou} {w1 : Wd} {v1 : Int32} (hd : 1 ≤ d) (c1 : ¬ (9 : Int32) < x8) (h1 : Ev (d - 1) 114 (ent0 114 [.ref 27, .int x1, .int x7] (hp E w)) (.inl (some (.int v1)), hp E w1)) (c2 : v1 = 0) (e : Ev d 122 (147, [.ref 27, .int x1, .int x2, .int x3, .int x4, .int x5, .int x6, .int x7, .int x8, .int (0 : Int32), u10], [], hp E w1) o) : Ev d 122 (96, [.ref 27, .int x1, .int x2, .int x3, .int x4, .int x5, .int x6, .int x7, .int x8, u9, u10], [], hp E w) o := by
  refine Ev.run (c' := (100, [.ref 27, .int x1, .int x2, .int x3, .int x4, .int x5, .int x6, .int x7, .int x8, u9, u10], [.int (9 : Int32), .int x8], hp E w)) hM_122 2 rfl ?_
  refine Ev.icF hM_122 rfl (cI_gtF c1) ?_
  refine Ev.run (c' := (107, [.ref 27, .int x1, .int x2, .int x3, .int x4, .int x5, .int x6, .int x7, .int x8, u9, u10], [.int x7, .int x1, .ref 27], hp E w)) hM_122 3 rfl ?_
  refine Ev.callR hd hM_122 rfl (y := 114) (as := [.ref 27, .int x1, .int x7]) (rest := []) rfl (Nat.le_of_ble_eq_true rfl) h1 ?_
  refine Ev.run (c' := (110, [.ref 27, .int x1, .int x2, .int x3, .int x4, .int x5, .int x6, .int x7, .int x8, u9, u10], [.int v1], hp E w1)) hM_122 0 rfl ?_
  refine Ev.ifT hM_122 rfl (cI_eqT c2) ?_
  refine Ev.run (c' := (147, [.ref 27, .int x1, .int x2, .int x3, .int x4, .int x5, .int x6, .int x7, .int x8, .int (0 : Int32), u10], [], hp E w1)) hM_122 2 rfl ?_
  exact e
theorem p122_96_g {E : Nat × (Nat → Int32)} {w : Wd} {d : Nat} {x1 x2 x3 x4 x5 x6 x7 x8 : Int32} {u9 u10 : Value} {o : Ou} {y7 : Int32} (c1 : (9 : Int32) < x8) (q7 : (x7 + (1 : Int32)) = y7) (e : Ev d 122 (84, [.ref 27, .int x1, .int x2, .int x3, .int x4, .int x5, .int x6, .int y7, .int x8, u9, u10], [], hp E w) o) : Ev d 122 (96, [.ref 27, .int x1, .int x2, .int x3, .int x4, .int x5, .int x6, .int x7, .int x8, u9, u10], [], hp E w) o := by
  subst q7
  refine Ev.run (c' := (100, [.ref 27, .int x1, .int x2, .int x3, .int x4, .int x5, .int x6, .int x7, .int x8, u9, u10], [.int (9 : Int32), .int x8], hp E w)) hM_122 2 rfl ?_
  refine Ev.icT hM_122 rfl (cI_gtT c1) ?_
  refine Ev.run (c' := (84, [.ref 27, .int x1, .int x2, .int x3, .int x4, .int x5, .int x6, .int (x7 + (1 : Int32)), .int x8, u9, u10], [], hp E w)) hM_122 2 rfl ?_
  exact e
theorem p122_147_a {E : Nat × (Nat → Int32)} {w : Wd} {d : Nat} {x1 x2 x3 x4 x5 x6 x7 x8 x9 : Int32} {u10 : Value} {o : Ou} {j1 : Nat} (hd : 1 ≤ d) (c1 : ¬ x9 = 0) (g1 : ((((x7 * (10 : Int32)) + x8) * (9 : Int32)) + x3) = I j1) (b1 : j1 < 810) (c2 : (gA w 16 j1) = (x5 - (1 : Int32))) (c3 : x8 = (9 : Int32)) (e : Ev d 122 (212, [.ref 27, .int x1, .int x2, .int x3, .int x4, .int x5, .int x6, .int x7, .int x8, .int x9, .int x7], [], hp E w) o) : Ev d 122 (147, [.ref 27, .int x1, .int x2, .int x3, .int x4, .int x5, .int x6, .int x7, .int x8, .int x9, u10], [], hp E w) o := by
  refine Ev.run (c' := (149, [.ref 27, .int x1, .int x2, .int x3, .int x4, .int x5, .int x6, .int x7, .int x8, .int x9, u10], [.int x9], hp E w)) hM_122 1 rfl ?_
  refine Ev.ifF hM_122 rfl (cI_eqF c1) ?_
  refine Ev.run (c' := (161, [.ref 27, .int x1, .int x2, .int x3, .int x4, .int x5, .int x6, .int x7, .int x8, .int x9, u10], [.int x3, .int x8, .int x7, .ref 34], hp E w)) hM_122 5 rfl ?_
  refine Ev.callR hd hM_122 rfl (y := 113) (as := [.int x7, .int x8, .int x3]) (rest := [.ref 34]) rfl (Nat.le_of_ble_eq_true rfl) (place_spec) ?_
  refine Ev.run (c' := (164, [.ref 27, .int x1, .int x2, .int x3, .int x4, .int x5, .int x6, .int x7, .int x8, .int x9, u10], [.int ((((x7 * (10 : Int32)) + x8) * (9 : Int32)) + x3), .ref 34], hp E w)) hM_122 0 rfl ?_
  rw [g1]
  refine Ev.iald hM_122 rfl (a := 34) rfl (inb_I b1 (by decide)) ?_
  rw [I_clamp (Nat.lt_of_lt_of_le b1 (by decide))]
  refine Ev.run (c' := (169, [.ref 27, .int x1, .int x2, .int x3, .int x4, .int x5, .int x6, .int x7, .int x8, .int x9, u10], [.int (x5 - (1 : Int32)), .int (gA w 16 j1)], hp E w)) hM_122 3 rfl ?_
  refine Ev.icF hM_122 rfl (cI_neF c2) ?_
  refine Ev.run (c' := (176, [.ref 27, .int x1, .int x2, .int x3, .int x4, .int x5, .int x6, .int x7, .int x8, .int x9, u10], [.int (9 : Int32), .int x8], hp E w)) hM_122 2 rfl ?_
  refine Ev.icF hM_122 rfl (cI_neF c3) ?_
  refine Ev.run (c' := (212, [.ref 27, .int x1, .int x2, .int x3, .int x4, .int x5, .int x6, .int x7, .int x8, .int x9, .int x7], [], hp E w)) hM_122 3 rfl ?_
  exact e
theorem p122_147_b {E : Nat × (Nat → Int32)} {w : Wd} {d : Nat} {x1 x2 x3 x4 x5 x6 x7 x8 x9 : Int32} {u10 : Value} {o : Ou} {j1 : Nat} {y10 : Int32} (hd : 1 ≤ d) (c1 : ¬ x9 = 0) (g1 : ((((x7 * (10 : Int32)) + x8) * (9 : Int32)) + x3) = I j1) (b1 : j1 < 810) (c2 : (gA w 16 j1) = (x5 - (1 : Int32))) (c3 : ¬ x8 = (9 : Int32)) (c4 : x7 < x8) (q10 : (((10 : Int32) * x7) + x8) = y10) (e : Ev d 122 (212, [.ref 27, .int x1, .int x2, .int x3, .int x4, .int x5, .int x6, .int x7, .int x8, .int x9, .int y10], [], hp E w) o) : Ev d 122 (147, [.ref 27, .int x1, .int x2, .int x3, .int x4, .int x5, .int x6, .int x7, .int x8, .int x9, u10], [], hp E w) o := by
  subst q10
  refine Ev.run (c' := (149, [.ref 27, .int x1, .int x2, .int x3, .int x4, .int x5, .int x6, .int x7, .int x8, .int x9, u10], [.int x9], hp E w)) hM_122 1 rfl ?_
  refine Ev.ifF hM_122 rfl (cI_eqF c1) ?_
  refine Ev.run (c' := (161, [.ref 27, .int x1, .int x2, .int x3, .int x4, .int x5, .int x6, .int x7, .int x8, .int x9, u10], [.int x3, .int x8, .int x7, .ref 34], hp E w)) hM_122 5 rfl ?_
  refine Ev.callR hd hM_122 rfl (y := 113) (as := [.int x7, .int x8, .int x3]) (rest := [.ref 34]) rfl (Nat.le_of_ble_eq_true rfl) (place_spec) ?_
  refine Ev.run (c' := (164, [.ref 27, .int x1, .int x2, .int x3, .int x4, .int x5, .int x6, .int x7, .int x8, .int x9, u10], [.int ((((x7 * (10 : Int32)) + x8) * (9 : Int32)) + x3), .ref 34], hp E w)) hM_122 0 rfl ?_
  rw [g1]
  refine Ev.iald hM_122 rfl (a := 34) rfl (inb_I b1 (by decide)) ?_
  rw [I_clamp (Nat.lt_of_lt_of_le b1 (by decide))]
  refine Ev.run (c' := (169, [.ref 27, .int x1, .int x2, .int x3, .int x4, .int x5, .int x6, .int x7, .int x8, .int x9, u10], [.int (x5 - (1 : Int32)), .int (gA w 16 j1)], hp E w)) hM_122 3 rfl ?_
  refine Ev.icF hM_122 rfl (cI_neF c2) ?_
  refine Ev.run (c' := (176, [.ref 27, .int x1, .int x2, .int x3, .int x4, .int x5, .int x6, .int x7, .int x8, .int x9, u10], [.int (9 : Int32), .int x8], hp E w)) hM_122 2 rfl ?_
  refine Ev.icT hM_122 rfl (cI_neT c3) ?_
  refine Ev.run (c' := (188, [.ref 27, .int x1, .int x2, .int x3, .int x4, .int x5, .int x6, .int x7, .int x8, .int x9, u10], [.int x8, .int x7], hp E w)) hM_122 2 rfl ?_
  refine Ev.icF hM_122 rfl (cI_geF c4) ?_
  refine Ev.run (c' := (212, [.ref 27, .int x1, .int x2, .int x3, .int x4, .int x5, .int x6, .int x7, .int x8, .int x9, .int (((10 : Int32) * x7) + x8)], [], hp E w)) hM_122 7 rfl ?_
  exact e
theorem p122_147_c {E : Nat × (Nat → Int32)} {w : Wd} {d : Nat} {x1 x2 x3 x4 x5 x6 x7 x8 x9 : Int32} {u10 : Value} {o : Ou} {j1 : Nat} {y10 : Int32} (hd : 1 ≤ d) (c1 : ¬ x9 = 0) (g1 : ((((x7 * (10 : Int32)) + x8) * (9 : Int32)) + x3) = I j1) (b1 : j1 < 810) (c2 : (gA w 16 j1) = (x5 - (1 : Int32))) (c3 : ¬ x8 = (9 : Int32)) (c4 : ¬ x7 < x8) (q10 : (((10 : Int32) * x8) + x7) = y10) (e : Ev d 122 (212, [.ref 27, .int x1, .int x2, .int x3, .int x4, .int x5, .int x6, .int x7, .int x8, .int x9, .int y10], [], hp E w) o) : Ev d 122 (147, [.ref 27, .int x1, .int x2, .int x3, .int x4, .int x5, .int x6, .int x7, .int x8, .int x9, u10], [], hp E w) o := by
  subst q10
  refine Ev.run (c' := (149, [.ref 27, .int x1, .int x2, .int x3, .int x4, .int x5, .int x6, .int x7, .int x8, .int x9, u10], [.int x9], hp E w)) hM_122 1 rfl ?_
  refine Ev.ifF hM_122 rfl (cI_eqF c1) ?_
  refine Ev.run (c' := (161, [.ref 27, .int x1, .int x2, .int x3, .int x4, .int x5, .int x6, .int x7, .int x8, .int x9, u10], [.int x3, .int x8, .int x7, .ref 34], hp E w)) hM_122 5 rfl ?_
  refine Ev.callR hd hM_122 rfl (y := 113) (as := [.int x7, .int x8, .int x3]) (rest := [.ref 34]) rfl (Nat.le_of_ble_eq_true rfl) (place_spec) ?_
  refine Ev.run (c' := (164, [.ref 27, .int x1, .int x2, .int x3, .int x4, .int x5, .int x6, .int x7, .int x8, .int x9, u10], [.int ((((x7 * (10 : Int32)) + x8) * (9 : Int32)) + x3), .ref 34], hp E w)) hM_122 0 rfl ?_
  rw [g1]
  refine Ev.iald hM_122 rfl (a := 34) rfl (inb_I b1 (by decide)) ?_
  rw [I_clamp (Nat.lt_of_lt_of_le b1 (by decide))]
  refine Ev.run (c' := (169, [.ref 27, .int x1, .int x2, .int x3, .int x4, .int x5, .int x6, .int x7, .int x8, .int x9, u10], [.int (x5 - (1 : Int32)), .int (gA w 16 j1)], hp E w)) hM_122 3 rfl ?_
  refine Ev.icF hM_122 rfl (cI_neF c2) ?_
  refine Ev.run (c' := (176, [.ref 27, .int x1, .int x2, .int x3, .int x4, .int x5, .int x6, .int x7, .int x8, .int x9, u10], [.int (9 : Int32), .int x8], hp E w)) hM_122 2 rfl ?_
  refine Ev.icT hM_122 rfl (cI_neT c3) ?_
  refine Ev.run (c' := (188, [.ref 27, .int x1, .int x2, .int x3, .int x4, .int x5, .int x6, .int x7, .int x8, .int x9, u10], [.int x8, .int x7], hp E w)) hM_122 2 rfl ?_
  refine Ev.icT hM_122 rfl (cI_geT c4) ?_
  refine Ev.run (c' := (212, [.ref 27, .int x1, .int x2, .int x3, .int x4, .int x5, .int x6, .int x7, .int x8, .int x9, .int (((10 : Int32) * x8) + x7)], [], hp E w)) hM_122 6 rfl ?_
  exact e
theorem p122_147_d {E : Nat × (Nat → Int32)} {w : Wd} {d : Nat} {x1 x2 x3 x4 x5 x6 x7 x8 x9 : Int32} {u10 : Value} {o : Ou} {j1 : Nat} {y8 : Int32} (hd : 1 ≤ d) (c1 : ¬ x9 = 0) (g1 : ((((x7 * (10 : Int32)) + x8) * (9 : Int32)) + x3) = I j1) (b1 : j1 < 810) (c2 : ¬ (gA w 16 j1) = (x5 - (1 : Int32))) (q8 : (x8 + (1 : Int32)) = y8) (e : Ev d 122 (96, [.ref 27, .int x1, .int x2, .int x3, .int x4, .int x5, .int x6, .int x7, .int y8, .int x9, u10], [], hp E w) o) : Ev d 122 (147, [.ref 27, .int x1, .int x2, .int x3, .int x4, .int x5, .int x6, .int x7, .int x8, .int x9, u10], [], hp E w) o := by
  subst q8
  refine Ev.run (c' := (149, [.ref 27, .int x1, .int x2, .int x3, .int x4, .int x5, .int x6, .int x7, .int x8, .int x9, u10], [.int x9], hp E w)) hM_122 1 rfl ?_
  refine Ev.ifF hM_122 rfl (cI_eqF c1) ?_
  refine Ev.run (c' := (161, [.ref 27, .int x1, .int x2, .int x3, .int x4, .int x5, .int x6, .int x7, .int x8, .int x9, u10], [.int x3, .int x8, .int x7, .ref 34], hp E w)) hM_122 5 rfl ?_
  refine Ev.callR hd hM_122 rfl (y := 113) (as := [.int x7, .int x8, .int x3]) (rest := [.ref 34]) rfl (Nat.le_of_ble_eq_true rfl) (place_spec) ?_
  refine Ev.run (c' := (164, [.ref 27, .int x1, .int x2, .int x3, .int x4, .int x5, .int x6, .int x7, .int x8, .int x9, u10], [.int ((((x7 * (10 : Int32)) + x8) * (9 : Int32)) + x3), .ref 34], hp E w)) hM_122 0 rfl ?_
  rw [g1]
  refine Ev.iald hM_122 rfl (a := 34) rfl (inb_I b1 (by decide)) ?_
  rw [I_clamp (Nat.lt_of_lt_of_le b1 (by decide))]
  refine Ev.run (c' := (169, [.ref 27, .int x1, .int x2, .int x3, .int x4, .int x5, .int x6, .int x7, .int x8, .int x9, u10], [.int (x5 - (1 : Int32)), .int (gA w 16 j1)], hp E w)) hM_122 3 rfl ?_
  refine Ev.icT hM_122 rfl (cI_neT c2) ?_
  refine Ev.run (c' := (96, [.ref 27, .int x1, .int x2, .int x3, .int x4, .int x5, .int x6, .int x7, .int (x8 + (1 : Int32)), .int x9, u10], [], hp E w)) hM_122 2 rfl ?_
  exact e
theorem p122_147_e {E : Nat × (Nat → Int32)} {w : Wd} {d : Nat} {x1 x2 x3 x4 x5 x6 x7 x8 x9 : Int32} {u10 : Value} {o : Ou} {y8 : Int32} (c1 : x9 = 0) (q8 : (x8 + (1 : Int32)) = y8) (e : Ev d 122 (96, [.ref 27, .int x1, .int x2, .int x3, .int x4, .int x5, .int x6, .int x7, .int y8, .int x9, u10], [], hp E w) o) : Ev d 122 (147, [.ref 27, .int x1, .int x2, .int x3, .int x4, .int x5, .int x6, .int x7, .int x8, .int x9, u10], [], hp E w) o := by
  subst q8
  refine Ev.run (c' := (149, [.ref 27, .int x1, .int x2, .int x3, .int x4, .int x5, .int x6, .int x7, .int x8, .int x9, u10], [.int x9], hp E w)) hM_122 1 rfl ?_
  refine Ev.ifT hM_122 rfl (cI_eqT c1) ?_
  refine Ev.run (c' := (96, [.ref 27, .int x1, .int x2, .int x3, .int x4, .int x5, .int x6, .int x7, .int (x8 + (1 : Int32)), .int x9, u10], [], hp E w)) hM_122 2 rfl ?_
  exact e
theorem p122_212_a {E : Nat × (Nat → Int32)} {w : Wd} {d : Nat} {x1 x2 x3 x4 x5 x6 x7 x8 x9 x10 : Int32} {o : Ou} {y8 : Int32} (c1 : x10 < x6) (q8 : (x8 + (1 : Int32)) = y8) (e : Ev d 122 (96, [.ref 27, .int x1, .int x2, .int x3, .int x4, .int x5, .int x10, .int x7, .int y8, .int x9, .int x10], [], hp E w) o) : Ev d 122 (212, [.ref 27, .int x1, .int x2, .int x3, .int x4, .int x5, .int x6, .int x7, .int x8, .int x9, .int x10], [], hp E w) o := by
  subst q8
  refine Ev.run (c' := (216, [.ref 27, .int x1, .int x2, .int x3, .int x4, .int x5, .int x6, .int x7, .int x8, .int x9, .int x10], [.int x6, .int x10], hp E w)) hM_122 2 rfl ?_
  refine Ev.icF hM_122 rfl (cI_geF c1) ?_
  refine Ev.run (c' := (96, [.ref 27, .int x1, .int x2, .int x3, .int x4, .int x5, .int x10, .int x7, .int (x8 + (1 : Int32)), .int x9, .int x10], [], hp E w)) hM_122 5 rfl ?_
  exact e
theorem p122_212_b {E : Nat × (Nat → Int32)} {w : Wd} {d : Nat} {x1 x2 x3 x4 x5 x6 x7 x8 x9 x10 : Int32} {o : Ou} {y8 : Int32} (c1 : ¬ x10 < x6) (q8 : (x8 + (1 : Int32)) = y8) (e : Ev d 122 (96, [.ref 27, .int x1, .int x2, .int x3, .int x4, .int x5, .int x6, .int x7, .int y8, .int x9, .int x10], [], hp E w) o) : Ev d 122 (212, [.ref 27, .int x1, .int x2, .int x3, .int x4, .int x5, .int x6, .int x7, .int x8, .int x9, .int x10], [], hp E w) o := by
  subst q8
  refine Ev.run (c' := (216, [.ref 27, .int x1, .int x2, .int x3, .int x4, .int x5, .int x6, .int x7, .int x8, .int x9, .int x10], [.int x6, .int x10], hp E w)) hM_122 2 rfl ?_
  refine Ev.icT hM_122 rfl (cI_geT c1) ?_
  refine Ev.run (c' := (96, [.ref 27, .int x1, .int x2, .int x3, .int x4, .int x5, .int x6, .int x7, .int (x8 + (1 : Int32)), .int x9, .int x10], [], hp E w)) hM_122 4 rfl ?_
  exact e
theorem hM_123 : mAt 123 = some km_X8_away := rfl
theorem p123_e_a {E : Nat × (Nat → Int32)} {w : Wd} {d : Nat} {x1 x2 x3 : Int32} {w1 : Wd} {v1 : Int32} {w2 : Wd} {v2 : Int32} (hd : 1 ≤ d) (h1 : Ev (d - 1) 119 (ent0 119 [.ref 27, .int x1, .int x2, .int x3] (hp E (sF 8 (0 : Int32) w))) (.inl (some (.int v1)), hp E w1)) (c1 : v1 = 0) (h2 : Ev (d - 1) 97 (ent0 97 [.ref 27, .int (1 : Int32)] (hp E w1)) (.inl (some (.int v2)), hp E w2)) : Ev d 123 (ent0 123 [.ref 27, .int x1, .int x2, .int x3] (hp E w)) (.inl (some (.int v2)), hp E w2) := by
  refine Ev.run (c' := (9, [.ref 27, .int x1, .int x2, .int x3, jk, jk, jk, jk], [.int x3, .int x2, .int x1, .ref 27], hp E (sF 8 (0 : Int32) w))) hM_123 7 rfl ?_
  refine Ev.callR hd hM_123 rfl (y := 119) (as := [.ref 27, .int x1, .int x2, .int x3]) (rest := []) rfl (Nat.le_of_ble_eq_true rfl) h1 ?_
  refine Ev.run (c' := (12, [.ref 27, .int x1, .int x2, .int x3, jk, jk, jk, jk], [.int v1], hp E w1)) hM_123 0 rfl ?_
  refine Ev.ifF hM_123 rfl (cI_neF c1) ?_
  refine Ev.run (c' := (17, [.ref 27, .int x1, .int x2, .int x3, jk, jk, jk, jk], [.int (1 : Int32), .ref 27], hp E w1)) hM_123 2 rfl ?_
  refine Ev.callR hd hM_123 rfl (y := 97) (as := [.ref 27, .int (1 : Int32)]) (rest := []) rfl (Nat.le_of_ble_eq_true rfl) h2 ?_
  refine Ev.run (c' := (20, [.ref 27, .int x1, .int x2, .int x3, jk, jk, jk, jk], [.int v2], hp E w2)) hM_123 0 rfl ?_
  exact Ev.fin hM_123 rfl rfl
theorem p123_e_b {E : Nat × (Nat → Int32)} {w : Wd} {d : Nat} {x1 x2 x3 : Int32} {w1 : Wd} {v1 : Int32} (hd : 1 ≤ d) (h1 : Ev (d - 1) 119 (ent0 119 [.ref 27, .int x1, .int x2, .int x3] (hp E (sF 8 (0 : Int32) w))) (.inl (some (.int v1)), hp E w1)) (c1 : ¬ v1 = 0) (c2 : ¬ x1 = x3) (c3 : x2 = x3) : Ev d 123 (ent0 123 [.ref 27, .int x1, .int x2, .int x3] (hp E w)) (.inl (some (.int (-1 : Int32))), hp E w1) := by
  refine Ev.run (c' := (9, [.ref 27, .int x1, .int x2, .int x3, jk, jk, jk, jk], [.int x3, .int x2, .int x1, .ref 27], hp E (sF 8 (0 : Int32) w))) hM_123 7 rfl ?_
  refine Ev.callR hd hM_123 rfl (y := 119) (as := [.ref 27, .int x1, .int x2, .int x3]) (rest := []) rfl (Nat.le_of_ble_eq_true rfl) h1 ?_
  refine Ev.run (c' := (12, [.ref 27, .int x1, .int x2, .int x3, jk, jk, jk, jk], [.int v1], hp E w1)) hM_123 0 rfl ?_
  refine Ev.ifT hM_123 rfl (cI_neT c1) ?_
  refine Ev.run (c' := (23, [.ref 27, .int x1, .int x2, .int x3, jk, jk, jk, jk], [.int x3, .int x1], hp E w1)) hM_123 2 rfl ?_
  refine Ev.icF hM_123 rfl (cI_eqF c2) ?_
  refine Ev.run (c' := (28, [.ref 27, .int x1, .int x2, .int x3, jk, jk, jk, jk], [.int x3, .int x2], hp E w1)) hM_123 2 rfl ?_
  refine Ev.icF hM_123 rfl (cI_neF c3) ?_
  refine Ev.run (c' := (32, [.ref 27, .int x1, .int x2, .int x3, jk, jk, jk, jk], [.int (-1 : Int32)], hp E w1)) hM_123 1 rfl ?_
  exact Ev.fin hM_123 rfl rfl
theorem p123_e_c {E : Nat × (Nat → Int32)} {w : Wd} {d : Nat} {x1 x2 x3 : Int32} {o : Ou} {w1 : Wd} {v1 : Int32} {w2 : Wd} (hd : 1 ≤ d) (h1 : Ev (d - 1) 119 (ent0 119 [.ref 27, .int x1, .int x2, .int x3] (hp E (sF 8 (0 : Int32) w))) (.inl (some (.int v1)), hp E w1)) (c1 : ¬ v1 = 0) (c2 : ¬ x1 = x3) (c3 : ¬ x2 = x3) (c4 : x2 = (-1 : Int32)) (h2 : Ev (d - 1) 118 (ent0 118 [.ref 27, .int (1 : Int32)] (hp E w1)) (.inl none, hp E w2)) (e : Ev d 123 (56, [.ref 27, .int x1, .int x2, .int x3, .int (-1 : Int32), .int (-1 : Int32), .int (0 : Int32), jk], [], hp E w2) o) : Ev d 123 (ent0 123 [.ref 27, .int x1, .int x2, .int x3] (hp E w)) o := by
  refine Ev.run (c' := (9, [.ref 27, .int x1, .int x2, .int x3, jk, jk, jk, jk], [.int x3, .int x2, .int x1, .ref 27], hp E (sF 8 (0 : Int32) w))) hM_123 7 rfl ?_
  refine Ev.callR hd hM_123 rfl (y := 119) (as := [.ref 27, .int x1, .int x2, .int x3]) (rest := []) rfl (Nat.le_of_ble_eq_true rfl) h1 ?_
  refine Ev.run (c' := (12, [.ref 27, .int x1, .int x2, .int x3, jk, jk, jk, jk], [.int v1], hp E w1)) hM_123 0 rfl ?_
  refine Ev.ifT hM_123 rfl (cI_neT c1) ?_
  refine Ev.run (c' := (23, [.ref 27, .int x1, .int x2, .int x3, jk, jk, jk, jk], [.int x3, .int x1], hp E w1)) hM_123 2 rfl ?_
  refine Ev.icF hM_123 rfl (cI_eqF c2) ?_
  refine Ev.run (c' := (28, [.ref 27, .int x1, .int x2, .int x3, jk, jk, jk, jk], [.int x3, .int x2], hp E w1)) hM_123 2 rfl ?_
  refine Ev.icT hM_123 rfl (cI_neT c3) ?_
  refine Ev.run (c' := (36, [.ref 27, .int x1, .int x2, .int x3, jk, jk, jk, jk], [.int (-1 : Int32), .int x2, .ref 27], hp E w1)) hM_123 3 rfl ?_
  refine Ev.icF hM_123 rfl (cI_neF c4) ?_
  refine Ev.run (c' := (44, [.ref 27, .int x1, .int x2, .int x3, jk, jk, jk, jk], [.int (1 : Int32), .ref 27], hp E w1)) hM_123 2 rfl ?_
  refine Ev.callR hd hM_123 rfl (y := 118) (as := [.ref 27, .int (1 : Int32)]) (rest := []) rfl (Nat.le_of_ble_eq_true rfl) h2 ?_
  refine Ev.run (c' := (56, [.ref 27, .int x1, .int x2, .int x3, .int (-1 : Int32), .int (-1 : Int32), .int (0 : Int32), jk], [], hp E w2)) hM_123 6 rfl ?_
  exact e
theorem p123_e_d {E : Nat × (Nat → Int32)} {w : Wd} {d : Nat} {x1 x2 x3 : Int32} {o : Ou} {w1 : Wd} {v1 : Int32} {w2 : Wd} (hd : 1 ≤ d) (h1 : Ev (d - 1) 119 (ent0 119 [.ref 27, .int x1, .int x2, .int x3] (hp E (sF 8 (0 : Int32) w))) (.inl (some (.int v1)), hp E w1)) (c1 : ¬ v1 = 0) (c2 : ¬ x1 = x3) (c3 : ¬ x2 = x3) (c4 : ¬ x2 = (-1 : Int32)) (h2 : Ev (d - 1) 118 (ent0 118 [.ref 27, .int (0 : Int32)] (hp E w1)) (.inl none, hp E w2)) (e : Ev d 123 (56, [.ref 27, .int x1, .int x2, .int x3, .int (-1 : Int32), .int (-1 : Int32), .int (0 : Int32), jk], [], hp E w2) o) : Ev d 123 (ent0 123 [.ref 27, .int x1, .int x2, .int x3] (hp E w)) o := by
  refine Ev.run (c' := (9, [.ref 27, .int x1, .int x2, .int x3, jk, jk, jk, jk], [.int x3, .int x2, .int x1, .ref 27], hp E (sF 8 (0 : Int32) w))) hM_123 7 rfl ?_
  refine Ev.callR hd hM_123 rfl (y := 119) (as := [.ref 27, .int x1, .int x2, .int x3]) (rest := []) rfl (Nat.le_of_ble_eq_true rfl) h1 ?_
  refine Ev.run (c' := (12, [.ref 27, .int x1, .int x2, .int x3, jk, jk, jk, jk], [.int v1], hp E w1)) hM_123 0 rfl ?_
  refine Ev.ifT hM_123 rfl (cI_neT c1) ?_
  refine Ev.run (c' := (23, [.ref 27, .int x1, .int x2, .int x3, jk, jk, jk, jk], [.int x3, .int x1], hp E w1)) hM_123 2 rfl ?_
  refine Ev.icF hM_123 rfl (cI_eqF c2) ?_
  refine Ev.run (c' := (28, [.ref 27, .int x1, .int x2, .int x3, jk, jk, jk, jk], [.int x3, .int x2], hp E w1)) hM_123 2 rfl ?_
  refine Ev.icT hM_123 rfl (cI_neT c3) ?_
  refine Ev.run (c' := (36, [.ref 27, .int x1, .int x2, .int x3, jk, jk, jk, jk], [.int (-1 : Int32), .int x2, .ref 27], hp E w1)) hM_123 3 rfl ?_
  refine Ev.icT hM_123 rfl (cI_neT c4) ?_
  refine Ev.run (c' := (44, [.ref 27, .int x1, .int x2, .int x3, jk, jk, jk, jk], [.int (0 : Int32), .ref 27], hp E w1)) hM_123 1 rfl ?_
  refine Ev.callR hd hM_123 rfl (y := 118) (as := [.ref 27, .int (0 : Int32)]) (rest := []) rfl (Nat.le_of_ble_eq_true rfl) h2 ?_
  refine Ev.run (c' := (56, [.ref 27, .int x1, .int x2, .int x3, .int (-1 : Int32), .int (-1 : Int32), .int (0 : Int32), jk], [], hp E w2)) hM_123 6 rfl ?_
  exact e
theorem p123_e_e {E : Nat × (Nat → Int32)} {w : Wd} {d : Nat} {x1 x2 x3 : Int32} {w1 : Wd} {v1 : Int32} (hd : 1 ≤ d) (h1 : Ev (d - 1) 119 (ent0 119 [.ref 27, .int x1, .int x2, .int x3] (hp E (sF 8 (0 : Int32) w))) (.inl (some (.int v1)), hp E w1)) (c1 : ¬ v1 = 0) (c2 : x1 = x3) : Ev d 123 (ent0 123 [.ref 27, .int x1, .int x2, .int x3] (hp E w)) (.inl (some (.int (-1 : Int32))), hp E w1) := by
  refine Ev.run (c' := (9, [.ref 27, .int x1, .int x2, .int x3, jk, jk, jk, jk], [.int x3, .int x2, .int x1, .ref 27], hp E (sF 8 (0 : Int32) w))) hM_123 7 rfl ?_
  refine Ev.callR hd hM_123 rfl (y := 119) (as := [.ref 27, .int x1, .int x2, .int x3]) (rest := []) rfl (Nat.le_of_ble_eq_true rfl) h1 ?_
  refine Ev.run (c' := (12, [.ref 27, .int x1, .int x2, .int x3, jk, jk, jk, jk], [.int v1], hp E w1)) hM_123 0 rfl ?_
  refine Ev.ifT hM_123 rfl (cI_neT c1) ?_
  refine Ev.run (c' := (23, [.ref 27, .int x1, .int x2, .int x3, jk, jk, jk, jk], [.int x3, .int x1], hp E w1)) hM_123 2 rfl ?_
  refine Ev.icT hM_123 rfl (cI_eqT c2) ?_
  refine Ev.run (c' := (32, [.ref 27, .int x1, .int x2, .int x3, jk, jk, jk, jk], [.int (-1 : Int32)], hp E w1)) hM_123 1 rfl ?_
  exact Ev.fin hM_123 rfl rfl
theorem p123_56_a {E : Nat × (Nat → Int32)} {w : Wd} {d : Nat} {x1 x2 x3 x4 x5 x6 : Int32} {u7 : Value} {o : Ou} {w1 : Wd} {v1 : Int32} {j1 : Nat} {y5 : Int32} {y6 : Int32} (hd : 1 ≤ d) (c1 : x6 < (gF w 9)) (h1 : Ev (d - 1) 114 (ent0 114 [.ref 27, .int x3, .int x6] (hp E w)) (.inl (some (.int v1)), hp E w1)) (c2 : ¬ v1 = 0) (c3 : x2 = (-1 : Int32)) (g1 : ((((x1 * (10 : Int32)) + (9 : Int32)) * (9 : Int32)) + x6) = I j1) (b1 : j1 < 810) (c4 : x5 < (gA w1 15 j1)) (c5 : x5 < (gA w1 15 j1)) (q5 : (gA w1 15 j1) = y5) (q6 : (x6 + (1 : Int32)) = y6) (e : Ev d 123 (56, [.ref 27, .int x1, .int x2, .int x3, .int x6, .int y5, .int y6, .int (gA w1 15 j1)], [], hp E w1) o) : Ev d 123 (56, [.ref 27, .int x1, .int x2, .int x3, .int x4, .int x5, .int x6, u7], [], hp E w) o := by
  subst q6
  subst q5
  refine Ev.run (c' := (62, [.ref 27, .int x1, .int x2, .int x3, .int x4, .int x5, .int x6, u7], [.int (gF w 9), .int x6], hp E w)) hM_123 3 rfl ?_
  refine Ev.icF hM_123 rfl (cI_geF c1) ?_
  refine Ev.run (c' := (69, [.ref 27, .int x1, .int x2, .int x3, .int x4, .int x5, .int x6, u7], [.int x6, .int x3, .ref 27], hp E w)) hM_123 3 rfl ?_
  refine Ev.callR hd hM_123 rfl (y := 114) (as := [.ref 27, .int x3, .int x6]) (rest := []) rfl (Nat.le_of_ble_eq_true rfl) h1 ?_
  refine Ev.run (c' := (72, [.ref 27, .int x1, .int x2, .int x3, .int x4, .int x5, .int x6, u7], [.int v1], hp E w1)) hM_123 0 rfl ?_
  refine Ev.ifF hM_123 rfl (cI_eqF c2) ?_
  refine Ev.run (c' := (82, [.ref 27, .int x1, .int x2, .int x3, .int x4, .int x5, .int x6, u7], [.int (-1 : Int32), .int x2, .int x1, .ref 33], hp E w1)) hM_123 5 rfl ?_
  refine Ev.icF hM_123 rfl (cI_neF c3) ?_
  refine Ev.run (c' := (93, [.ref 27, .int x1, .int x2, .int x3, .int x4, .int x5, .int x6, u7], [.int x6, .int (9 : Int32), .int x1, .ref 33], hp E w1)) hM_123 3 rfl ?_
  refine Ev.callR hd hM_123 rfl (y := 113) (as := [.int x1, .int (9 : Int32), .int x6]) (rest := [.ref 33]) rfl (Nat.le_of_ble_eq_true rfl) (place_spec) ?_
  refine Ev.run (c' := (96, [.ref 27, .int x1, .int x2, .int x3, .int x4, .int x5, .int x6, u7], [.int ((((x1 * (10 : Int32)) + (9 : Int32)) * (9 : Int32)) + x6), .ref 33], hp E w1)) hM_123 0 rfl ?_
  rw [g1]
  refine Ev.iald hM_123 rfl (a := 33) rfl (inb_I b1 (by decide)) ?_
  rw [I_clamp (Nat.lt_of_lt_of_le b1 (by decide))]
  refine Ev.run (c' := (107, [.ref 27, .int x1, .int x2, .int x3, .int x4, .int x5, .int x6, .int (gA w1 15 j1)], [.int x5, .int (gA w1 15 j1)], hp E w1)) hM_123 4 rfl ?_
  refine Ev.icF hM_123 rfl (cI_leF c4) ?_
  refine Ev.run (c' := (123, [.ref 27, .int x1, .int x2, .int x3, .int x6, .int x5, .int x6, .int (gA w1 15 j1)], [.int x5, .int (gA w1 15 j1)], hp E w1)) hM_123 5 rfl ?_
  refine Ev.icF hM_123 rfl (cI_leF c5) ?_
  refine Ev.run (c' := (56, [.ref 27, .int x1, .int x2, .int x3, .int x6, .int (gA w1 15 j1), .int (x6 + (1 : Int32)), .int (gA w1 15 j1)], [], hp E w1)) hM_123 5 rfl ?_
  exact e
theorem p123_56_b {E : Nat × (Nat → Int32)} {w : Wd} {d : Nat} {x1 x2 x3 x4 x5 x6 : Int32} {u7 : Value} {o : Ou} {w1 : Wd} {v1 : Int32} {j1 : Nat} {y6 : Int32} (hd : 1 ≤ d) (c1 : x6 < (gF w 9)) (h1 : Ev (d - 1) 114 (ent0 114 [.ref 27, .int x3, .int x6] (hp E w)) (.inl (some (.int v1)), hp E w1)) (c2 : ¬ v1 = 0) (c3 : x2 = (-1 : Int32)) (g1 : ((((x1 * (10 : Int32)) + (9 : Int32)) * (9 : Int32)) + x6) = I j1) (b1 : j1 < 810) (c4 : x5 < (gA w1 15 j1)) (c5 : ¬ x5 < (gA w1 15 j1)) (q6 : (x6 + (1 : Int32)) = y6) (e : Ev d 123 (56, [.ref 27, .int x1, .int x2, .int x3, .int x6, .int x5, .int y6, .int (gA w1 15 j1)], [], hp E w1) o) : Ev d 123 (56, [.ref 27, .int x1, .int x2, .int x3, .int x4, .int x5, .int x6, u7], [], hp E w) o := by
  subst q6
  refine Ev.run (c' := (62, [.ref 27, .int x1, .int x2, .int x3, .int x4, .int x5, .int x6, u7], [.int (gF w 9), .int x6], hp E w)) hM_123 3 rfl ?_
  refine Ev.icF hM_123 rfl (cI_geF c1) ?_
  refine Ev.run (c' := (69, [.ref 27, .int x1, .int x2, .int x3, .int x4, .int x5, .int x6, u7], [.int x6, .int x3, .ref 27], hp E w)) hM_123 3 rfl ?_
  refine Ev.callR hd hM_123 rfl (y := 114) (as := [.ref 27, .int x3, .int x6]) (rest := []) rfl (Nat.le_of_ble_eq_true rfl) h1 ?_
  refine Ev.run (c' := (72, [.ref 27, .int x1, .int x2, .int x3, .int x4, .int x5, .int x6, u7], [.int v1], hp E w1)) hM_123 0 rfl ?_
  refine Ev.ifF hM_123 rfl (cI_eqF c2) ?_
  refine Ev.run (c' := (82, [.ref 27, .int x1, .int x2, .int x3, .int x4, .int x5, .int x6, u7], [.int (-1 : Int32), .int x2, .int x1, .ref 33], hp E w1)) hM_123 5 rfl ?_
  refine Ev.icF hM_123 rfl (cI_neF c3) ?_
  refine Ev.run (c' := (93, [.ref 27, .int x1, .int x2, .int x3, .int x4, .int x5, .int x6, u7], [.int x6, .int (9 : Int32), .int x1, .ref 33], hp E w1)) hM_123 3 rfl ?_
  refine Ev.callR hd hM_123 rfl (y := 113) (as := [.int x1, .int (9 : Int32), .int x6]) (rest := [.ref 33]) rfl (Nat.le_of_ble_eq_true rfl) (place_spec) ?_
  refine Ev.run (c' := (96, [.ref 27, .int x1, .int x2, .int x3, .int x4, .int x5, .int x6, u7], [.int ((((x1 * (10 : Int32)) + (9 : Int32)) * (9 : Int32)) + x6), .ref 33], hp E w1)) hM_123 0 rfl ?_
  rw [g1]
  refine Ev.iald hM_123 rfl (a := 33) rfl (inb_I b1 (by decide)) ?_
  rw [I_clamp (Nat.lt_of_lt_of_le b1 (by decide))]
  refine Ev.run (c' := (107, [.ref 27, .int x1, .int x2, .int x3, .int x4, .int x5, .int x6, .int (gA w1 15 j1)], [.int x5, .int (gA w1 15 j1)], hp E w1)) hM_123 4 rfl ?_
  refine Ev.icF hM_123 rfl (cI_leF c4) ?_
  refine Ev.run (c' := (123, [.ref 27, .int x1, .int x2, .int x3, .int x6, .int x5, .int x6, .int (gA w1 15 j1)], [.int x5, .int (gA w1 15 j1)], hp E w1)) hM_123 5 rfl ?_
  refine Ev.icT hM_123 rfl (cI_leT c5) ?_
  refine Ev.run (c' := (56, [.ref 27, .int x1, .int x2, .int x3, .int x6, .int x5, .int (x6 + (1 : Int32)), .int (gA w1 15 j1)], [], hp E w1)) hM_123 4 rfl ?_
  exact e
theorem p123_56_c {E : Nat × (Nat → Int32)} {w : Wd} {d : Nat} {x1 x2 x3 x4 x5 x6 : Int32} {u7 : Value} {o : Ou} {w1 : Wd} {v1 : Int32} {j1 : Nat} {y5 : Int32} {y6 : Int32} (hd : 1 ≤ d) (c1 : x6 < (gF w 9)) (h1 : Ev (d - 1) 114 (ent0 114 [.ref 27, .int x3, .int x6] (hp E w)) (.inl (some (.int v1)), hp E w1)) (c2 : ¬ v1 = 0) (c3 : x2 = (-1 : Int32)) (g1 : ((((x1 * (10 : Int32)) + (9 : Int32)) * (9 : Int32)) + x6) = I j1) (b1 : j1 < 810) (c4 : ¬ x5 < (gA w1 15 j1)) (c5 : x5 < (gA w1 15 j1)) (q5 : (gA w1 15 j1) = y5) (q6 : (x6 + (1 : Int32)) = y6) (e : Ev d 123 (56, [.ref 27, .int x1, .int x2, .int x3, .int x4, .int y5, .int y6, .int (gA w1 15 j1)], [], hp E w1) o) : Ev d 123 (56, [.ref 27, .int x1, .int x2, .int x3, .int x4, .int x5, .int x6, u7], [], hp E w) o := by
  subst q6
  subst q5
  refine Ev.run (c' := (62, [.ref 27, .int x1, .int x2, .int x3, .int x4, .int x5, .int x6, u7], [.int (gF w 9), .int x6], hp E w)) hM_123 3 rfl ?_
  refine Ev.icF hM_123 rfl (cI_geF c1) ?_
  refine Ev.run (c' := (69, [.ref 27, .int x1, .int x2, .int x3, .int x4, .int x5, .int x6, u7], [.int x6, .int x3, .ref 27], hp E w)) hM_123 3 rfl ?_
  refine Ev.callR hd hM_123 rfl (y := 114) (as := [.ref 27, .int x3, .int x6]) (rest := []) rfl (Nat.le_of_ble_eq_true rfl) h1 ?_
  refine Ev.run (c' := (72, [.ref 27, .int x1, .int x2, .int x3, .int x4, .int x5, .int x6, u7], [.int v1], hp E w1)) hM_123 0 rfl ?_
  refine Ev.ifF hM_123 rfl (cI_eqF c2) ?_
  refine Ev.run (c' := (82, [.ref 27, .int x1, .int x2, .int x3, .int x4, .int x5, .int x6, u7], [.int (-1 : Int32), .int x2, .int x1, .ref 33], hp E w1)) hM_123 5 rfl ?_
  refine Ev.icF hM_123 rfl (cI_neF c3) ?_
  refine Ev.run (c' := (93, [.ref 27, .int x1, .int x2, .int x3, .int x4, .int x5, .int x6, u7], [.int x6, .int (9 : Int32), .int x1, .ref 33], hp E w1)) hM_123 3 rfl ?_
  refine Ev.callR hd hM_123 rfl (y := 113) (as := [.int x1, .int (9 : Int32), .int x6]) (rest := [.ref 33]) rfl (Nat.le_of_ble_eq_true rfl) (place_spec) ?_
  refine Ev.run (c' := (96, [.ref 27, .int x1, .int x2, .int x3, .int x4, .int x5, .int x6, u7], [.int ((((x1 * (10 : Int32)) + (9 : Int32)) * (9 : Int32)) + x6), .ref 33], hp E w1)) hM_123 0 rfl ?_
  rw [g1]
  refine Ev.iald hM_123 rfl (a := 33) rfl (inb_I b1 (by decide)) ?_
  rw [I_clamp (Nat.lt_of_lt_of_le b1 (by decide))]
  refine Ev.run (c' := (107, [.ref 27, .int x1, .int x2, .int x3, .int x4, .int x5, .int x6, .int (gA w1 15 j1)], [.int x5, .int (gA w1 15 j1)], hp E w1)) hM_123 4 rfl ?_
  refine Ev.icT hM_123 rfl (cI_leT c4) ?_
  refine Ev.run (c' := (123, [.ref 27, .int x1, .int x2, .int x3, .int x4, .int x5, .int x6, .int (gA w1 15 j1)], [.int x5, .int (gA w1 15 j1)], hp E w1)) hM_123 4 rfl ?_
  refine Ev.icF hM_123 rfl (cI_leF c5) ?_
  refine Ev.run (c' := (56, [.ref 27, .int x1, .int x2, .int x3, .int x4, .int (gA w1 15 j1), .int (x6 + (1 : Int32)), .int (gA w1 15 j1)], [], hp E w1)) hM_123 5 rfl ?_
  exact e
theorem p123_56_d {E : Nat × (Nat → Int32)} {w : Wd} {d : Nat} {x1 x2 x3 x4 x5 x6 : Int32} {u7 : Value} {o : Ou} {w1 : Wd} {v1 : Int32} {j1 : Nat} {y6 : Int32} (hd : 1 ≤ d) (c1 : x6 < (gF w 9)) (h1 : Ev (d - 1) 114 (ent0 114 [.ref 27, .int x3, .int x6] (hp E w)) (.inl (some (.int v1)), hp E w1)) (c2 : ¬ v1 = 0) (c3 : x2 = (-1 : Int32)) (g1 : ((((x1 * (10 : Int32)) + (9 : Int32)) * (9 : Int32)) + x6) = I j1) (b1 : j1 < 810) (c4 : ¬ x5 < (gA w1 15 j1)) (c5 : ¬ x5 < (gA w1 15 j1)) (q6 : (x6 + (1 : Int32)) = y6) (e : Ev d 123 (56, [.ref 27, .int x1, .int x2, .int x3, .int x4, .int x5, .int y6, .int (gA w1 15 j1)], [], hp E w1) o) : Ev d 123 (56, [.ref 27, .int x1, .int x2, .int x3, .int x4, .int x5, .int x6, u7], [], hp E w) o := by
  subst q6
  refine Ev.run (c' := (62, [.ref 27, .int x1, .int x2, .int x3, .int x4, .int x5, .int x6, u7], [.int (gF w 9), .int x6], hp E w)) hM_123 3 rfl ?_
  refine Ev.icF hM_123 rfl (cI_geF c1) ?_
  refine Ev.run (c' := (69, [.ref 27, .int x1, .int x2, .int x3, .int x4, .int x5, .int x6, u7], [.int x6, .int x3, .ref 27], hp E w)) hM_123 3 rfl ?_
  refine Ev.callR hd hM_123 rfl (y := 114) (as := [.ref 27, .int x3, .int x6]) (rest := []) rfl (Nat.le_of_ble_eq_true rfl) h1 ?_
  refine Ev.run (c' := (72, [.ref 27, .int x1, .int x2, .int x3, .int x4, .int x5, .int x6, u7], [.int v1], hp E w1)) hM_123 0 rfl ?_
  refine Ev.ifF hM_123 rfl (cI_eqF c2) ?_
  refine Ev.run (c' := (82, [.ref 27, .int x1, .int x2, .int x3, .int x4, .int x5, .int x6, u7], [.int (-1 : Int32), .int x2, .int x1, .ref 33], hp E w1)) hM_123 5 rfl ?_
  refine Ev.icF hM_123 rfl (cI_neF c3) ?_
  refine Ev.run (c' := (93, [.ref 27, .int x1, .int x2, .int x3, .int x4, .int x5, .int x6, u7], [.int x6, .int (9 : Int32), .int x1, .ref 33], hp E w1)) hM_123 3 rfl ?_
  refine Ev.callR hd hM_123 rfl (y := 113) (as := [.int x1, .int (9 : Int32), .int x6]) (rest := [.ref 33]) rfl (Nat.le_of_ble_eq_true rfl) (place_spec) ?_
  refine Ev.run (c' := (96, [.ref 27, .int x1, .int x2, .int x3, .int x4, .int x5, .int x6, u7], [.int ((((x1 * (10 : Int32)) + (9 : Int32)) * (9 : Int32)) + x6), .ref 33], hp E w1)) hM_123 0 rfl ?_
  rw [g1]
  refine Ev.iald hM_123 rfl (a := 33) rfl (inb_I b1 (by decide)) ?_
  rw [I_clamp (Nat.lt_of_lt_of_le b1 (by decide))]
  refine Ev.run (c' := (107, [.ref 27, .int x1, .int x2, .int x3, .int x4, .int x5, .int x6, .int (gA w1 15 j1)], [.int x5, .int (gA w1 15 j1)], hp E w1)) hM_123 4 rfl ?_
  refine Ev.icT hM_123 rfl (cI_leT c4) ?_
  refine Ev.run (c' := (123, [.ref 27, .int x1, .int x2, .int x3, .int x4, .int x5, .int x6, .int (gA w1 15 j1)], [.int x5, .int (gA w1 15 j1)], hp E w1)) hM_123 4 rfl ?_
  refine Ev.icT hM_123 rfl (cI_leT c5) ?_
  refine Ev.run (c' := (56, [.ref 27, .int x1, .int x2, .int x3, .int x4, .int x5, .int (x6 + (1 : Int32)), .int (gA w1 15 j1)], [], hp E w1)) hM_123 4 rfl ?_
  exact e
theorem p123_56_e {E : Nat × (Nat → Int32)} {w : Wd} {d : Nat} {x1 x2 x3 x4 x5 x6 : Int32} {u7 : Value} {o : Ou} {w1 : Wd} {v1 : Int32} {j1 : Nat} {y5 : Int32} {y6 : Int32} (hd : 1 ≤ d) (c1 : x6 < (gF w 9)) (h1 : Ev (d - 1) 114 (ent0 114 [.ref 27, .int x3, .int x6] (hp E w)) (.inl (some (.int v1)), hp E w1)) (c2 : ¬ v1 = 0) (c3 : ¬ x2 = (-1 : Int32)) (g1 : ((((x1 * (10 : Int32)) + x2) * (9 : Int32)) + x6) = I j1) (b1 : j1 < 810) (c4 : x5 < (gA w1 15 j1)) (c5 : x5 < (gA w1 15 j1)) (q5 : (gA w1 15 j1) = y5) (q6 : (x6 + (1 : Int32)) = y6) (e : Ev d 123 (56, [.ref 27, .int x1, .int x2, .int x3, .int x6, .int y5, .int y6, .int (gA w1 15 j1)], [], hp E w1) o) : Ev d 123 (56, [.ref 27, .int x1, .int x2, .int x3, .int x4, .int x5, .int x6, u7], [], hp E w) o := by
  subst q6
  subst q5
  refine Ev.run (c' := (62, [.ref 27, .int x1, .int x2, .int x3, .int x4, .int x5, .int x6, u7], [.int (gF w 9), .int x6], hp E w)) hM_123 3 rfl ?_
  refine Ev.icF hM_123 rfl (cI_geF c1) ?_
  refine Ev.run (c' := (69, [.ref 27, .int x1, .int x2, .int x3, .int x4, .int x5, .int x6, u7], [.int x6, .int x3, .ref 27], hp E w)) hM_123 3 rfl ?_
  refine Ev.callR hd hM_123 rfl (y := 114) (as := [.ref 27, .int x3, .int x6]) (rest := []) rfl (Nat.le_of_ble_eq_true rfl) h1 ?_
  refine Ev.run (c' := (72, [.ref 27, .int x1, .int x2, .int x3, .int x4, .int x5, .int x6, u7], [.int v1], hp E w1)) hM_123 0 rfl ?_
  refine Ev.ifF hM_123 rfl (cI_eqF c2) ?_
  refine Ev.run (c' := (82, [.ref 27, .int x1, .int x2, .int x3, .int x4, .int x5, .int x6, u7], [.int (-1 : Int32), .int x2, .int x1, .ref 33], hp E w1)) hM_123 5 rfl ?_
  refine Ev.icT hM_123 rfl (cI_neT c3) ?_
  refine Ev.run (c' := (93, [.ref 27, .int x1, .int x2, .int x3, .int x4, .int x5, .int x6, u7], [.int x6, .int x2, .int x1, .ref 33], hp E w1)) hM_123 2 rfl ?_
  refine Ev.callR hd hM_123 rfl (y := 113) (as := [.int x1, .int x2, .int x6]) (rest := [.ref 33]) rfl (Nat.le_of_ble_eq_true rfl) (place_spec) ?_
  refine Ev.run (c' := (96, [.ref 27, .int x1, .int x2, .int x3, .int x4, .int x5, .int x6, u7], [.int ((((x1 * (10 : Int32)) + x2) * (9 : Int32)) + x6), .ref 33], hp E w1)) hM_123 0 rfl ?_
  rw [g1]
  refine Ev.iald hM_123 rfl (a := 33) rfl (inb_I b1 (by decide)) ?_
  rw [I_clamp (Nat.lt_of_lt_of_le b1 (by decide))]
  refine Ev.run (c' := (107, [.ref 27, .int x1, .int x2, .int x3, .int x4, .int x5, .int x6, .int (gA w1 15 j1)], [.int x5, .int (gA w1 15 j1)], hp E w1)) hM_123 4 rfl ?_
  refine Ev.icF hM_123 rfl (cI_leF c4) ?_
  refine Ev.run (c' := (123, [.ref 27, .int x1, .int x2, .int x3, .int x6, .int x5, .int x6, .int (gA w1 15 j1)], [.int x5, .int (gA w1 15 j1)], hp E w1)) hM_123 5 rfl ?_
  refine Ev.icF hM_123 rfl (cI_leF c5) ?_
  refine Ev.run (c' := (56, [.ref 27, .int x1, .int x2, .int x3, .int x6, .int (gA w1 15 j1), .int (x6 + (1 : Int32)), .int (gA w1 15 j1)], [], hp E w1)) hM_123 5 rfl ?_
  exact e
theorem p123_56_f {E : Nat × (Nat → Int32)} {w : Wd} {d : Nat} {x1 x2 x3 x4 x5 x6 : Int32} {u7 : Value} {o : Ou} {w1 : Wd} {v1 : Int32} {j1 : Nat} {y6 : Int32} (hd : 1 ≤ d) (c1 : x6 < (gF w 9)) (h1 : Ev (d - 1) 114 (ent0 114 [.ref 27, .int x3, .int x6] (hp E w)) (.inl (some (.int v1)), hp E w1)) (c2 : ¬ v1 = 0) (c3 : ¬ x2 = (-1 : Int32)) (g1 : ((((x1 * (10 : Int32)) + x2) * (9 : Int32)) + x6) = I j1) (b1 : j1 < 810) (c4 : x5 < (gA w1 15 j1)) (c5 : ¬ x5 < (gA w1 15 j1)) (q6 : (x6 + (1 : Int32)) = y6) (e : Ev d 123 (56, [.ref 27, .int x1, .int x2, .int x3, .int x6, .int x5, .int y6, .int (gA w1 15 j1)], [], hp E w1) o) : Ev d 123 (56, [.ref 27, .int x1, .int x2, .int x3, .int x4, .int x5, .int x6, u7], [], hp E w) o := by
  subst q6
  refine Ev.run (c' := (62, [.ref 27, .int x1, .int x2, .int x3, .int x4, .int x5, .int x6, u7], [.int (gF w 9), .int x6], hp E w)) hM_123 3 rfl ?_
  refine Ev.icF hM_123 rfl (cI_geF c1) ?_
  refine Ev.run (c' := (69, [.ref 27, .int x1, .int x2, .int x3, .int x4, .int x5, .int x6, u7], [.int x6, .int x3, .ref 27], hp E w)) hM_123 3 rfl ?_
  refine Ev.callR hd hM_123 rfl (y := 114) (as := [.ref 27, .int x3, .int x6]) (rest := []) rfl (Nat.le_of_ble_eq_true rfl) h1 ?_
  refine Ev.run (c' := (72, [.ref 27, .int x1, .int x2, .int x3, .int x4, .int x5, .int x6, u7], [.int v1], hp E w1)) hM_123 0 rfl ?_
  refine Ev.ifF hM_123 rfl (cI_eqF c2) ?_
  refine Ev.run (c' := (82, [.ref 27, .int x1, .int x2, .int x3, .int x4, .int x5, .int x6, u7], [.int (-1 : Int32), .int x2, .int x1, .ref 33], hp E w1)) hM_123 5 rfl ?_
  refine Ev.icT hM_123 rfl (cI_neT c3) ?_
  refine Ev.run (c' := (93, [.ref 27, .int x1, .int x2, .int x3, .int x4, .int x5, .int x6, u7], [.int x6, .int x2, .int x1, .ref 33], hp E w1)) hM_123 2 rfl ?_
  refine Ev.callR hd hM_123 rfl (y := 113) (as := [.int x1, .int x2, .int x6]) (rest := [.ref 33]) rfl (Nat.le_of_ble_eq_true rfl) (place_spec) ?_
  refine Ev.run (c' := (96, [.ref 27, .int x1, .int x2, .int x3, .int x4, .int x5, .int x6, u7], [.int ((((x1 * (10 : Int32)) + x2) * (9 : Int32)) + x6), .ref 33], hp E w1)) hM_123 0 rfl ?_
  rw [g1]
  refine Ev.iald hM_123 rfl (a := 33) rfl (inb_I b1 (by decide)) ?_
  rw [I_clamp (Nat.lt_of_lt_of_le b1 (by decide))]
  refine Ev.run (c' := (107, [.ref 27, .int x1, .int x2, .int x3, .int x4, .int x5, .int x6, .int (gA w1 15 j1)], [.int x5, .int (gA w1 15 j1)], hp E w1)) hM_123 4 rfl ?_
  refine Ev.icF hM_123 rfl (cI_leF c4) ?_
  refine Ev.run (c' := (123, [.ref 27, .int x1, .int x2, .int x3, .int x6, .int x5, .int x6, .int (gA w1 15 j1)], [.int x5, .int (gA w1 15 j1)], hp E w1)) hM_123 5 rfl ?_
  refine Ev.icT hM_123 rfl (cI_leT c5) ?_
  refine Ev.run (c' := (56, [.ref 27, .int x1, .int x2, .int x3, .int x6, .int x5, .int (x6 + (1 : Int32)), .int (gA w1 15 j1)], [], hp E w1)) hM_123 4 rfl ?_
  exact e
theorem p123_56_g {E : Nat × (Nat → Int32)} {w : Wd} {d : Nat} {x1 x2 x3 x4 x5 x6 : Int32} {u7 : Value} {o : Ou} {w1 : Wd} {v1 : Int32} {j1 : Nat} {y5 : Int32} {y6 : Int32} (hd : 1 ≤ d) (c1 : x6 < (gF w 9)) (h1 : Ev (d - 1) 114 (ent0 114 [.ref 27, .int x3, .int x6] (hp E w)) (.inl (some (.int v1)), hp E w1)) (c2 : ¬ v1 = 0) (c3 : ¬ x2 = (-1 : Int32)) (g1 : ((((x1 * (10 : Int32)) + x2) * (9 : Int32)) + x6) = I j1) (b1 : j1 < 810) (c4 : ¬ x5 < (gA w1 15 j1)) (c5 : x5 < (gA w1 15 j1)) (q5 : (gA w1 15 j1) = y5) (q6 : (x6 + (1 : Int32)) = y6) (e : Ev d 123 (56, [.ref 27, .int x1, .int x2, .int x3, .int x4, .int y5, .int y6, .int (gA w1 15 j1)], [], hp E w1) o) : Ev d 123 (56, [.ref 27, .int x1, .int x2, .int x3, .int x4, .int x5, .int x6, u7], [], hp E w) o := by
  subst q6
  subst q5
  refine Ev.run (c' := (62, [.ref 27, .int x1, .int x2, .int x3, .int x4, .int x5, .int x6, u7], [.int (gF w 9), .int x6], hp E w)) hM_123 3 rfl ?_
  refine Ev.icF hM_123 rfl (cI_geF c1) ?_
  refine Ev.run (c' := (69, [.ref 27, .int x1, .int x2, .int x3, .int x4, .int x5, .int x6, u7], [.int x6, .int x3, .ref 27], hp E w)) hM_123 3 rfl ?_
  refine Ev.callR hd hM_123 rfl (y := 114) (as := [.ref 27, .int x3, .int x6]) (rest := []) rfl (Nat.le_of_ble_eq_true rfl) h1 ?_
  refine Ev.run (c' := (72, [.ref 27, .int x1, .int x2, .int x3, .int x4, .int x5, .int x6, u7], [.int v1], hp E w1)) hM_123 0 rfl ?_
  refine Ev.ifF hM_123 rfl (cI_eqF c2) ?_
  refine Ev.run (c' := (82, [.ref 27, .int x1, .int x2, .int x3, .int x4, .int x5, .int x6, u7], [.int (-1 : Int32), .int x2, .int x1, .ref 33], hp E w1)) hM_123 5 rfl ?_
  refine Ev.icT hM_123 rfl (cI_neT c3) ?_
  refine Ev.run (c' := (93, [.ref 27, .int x1, .int x2, .int x3, .int x4, .int x5, .int x6, u7], [.int x6, .int x2, .int x1, .ref 33], hp E w1)) hM_123 2 rfl ?_
  refine Ev.callR hd hM_123 rfl (y := 113) (as := [.int x1, .int x2, .int x6]) (rest := [.ref 33]) rfl (Nat.le_of_ble_eq_true rfl) (place_spec) ?_
  refine Ev.run (c' := (96, [.ref 27, .int x1, .int x2, .int x3, .int x4, .int x5, .int x6, u7], [.int ((((x1 * (10 : Int32)) + x2) * (9 : Int32)) + x6), .ref 33], hp E w1)) hM_123 0 rfl ?_
  rw [g1]
  refine Ev.iald hM_123 rfl (a := 33) rfl (inb_I b1 (by decide)) ?_
  rw [I_clamp (Nat.lt_of_lt_of_le b1 (by decide))]
  refine Ev.run (c' := (107, [.ref 27, .int x1, .int x2, .int x3, .int x4, .int x5, .int x6, .int (gA w1 15 j1)], [.int x5, .int (gA w1 15 j1)], hp E w1)) hM_123 4 rfl ?_
  refine Ev.icT hM_123 rfl (cI_leT c4) ?_
  refine Ev.run (c' := (123, [.ref 27, .int x1, .int x2, .int x3, .int x4, .int x5, .int x6, .int (gA w1 15 j1)], [.int x5, .int (gA w1 15 j1)], hp E w1)) hM_123 4 rfl ?_
  refine Ev.icF hM_123 rfl (cI_leF c5) ?_
  refine Ev.run (c' := (56, [.ref 27, .int x1, .int x2, .int x3, .int x4, .int (gA w1 15 j1), .int (x6 + (1 : Int32)), .int (gA w1 15 j1)], [], hp E w1)) hM_123 5 rfl ?_
  exact e
theorem p123_56_h {E : Nat × (Nat → Int32)} {w : Wd} {d : Nat} {x1 x2 x3 x4 x5 x6 : Int32} {u7 : Value} {o : Ou} {w1 : Wd} {v1 : Int32} {j1 : Nat} {y6 : Int32} (hd : 1 ≤ d) (c1 : x6 < (gF w 9)) (h1 : Ev (d - 1) 114 (ent0 114 [.ref 27, .int x3, .int x6] (hp E w)) (.inl (some (.int v1)), hp E w1)) (c2 : ¬ v1 = 0) (c3 : ¬ x2 = (-1 : Int32)) (g1 : ((((x1 * (10 : Int32)) + x2) * (9 : Int32)) + x6) = I j1) (b1 : j1 < 810) (c4 : ¬ x5 < (gA w1 15 j1)) (c5 : ¬ x5 < (gA w1 15 j1)) (q6 : (x6 + (1 : Int32)) = y6) (e : Ev d 123 (56, [.ref 27, .int x1, .int x2, .int x3, .int x4, .int x5, .int y6, .int (gA w1 15 j1)], [], hp E w1) o) : Ev d 123 (56, [.ref 27, .int x1, .int x2, .int x3, .int x4, .int x5, .int x6, u7], [], hp E w) o := by
  subst q6
  refine Ev.run (c' := (62, [.ref 27, .int x1, .int x2, .int x3, .int x4, .int x5, .int x6, u7], [.int (gF w 9), .int x6], hp E w)) hM_123 3 rfl ?_
  refine Ev.icF hM_123 rfl (cI_geF c1) ?_
  refine Ev.run (c' := (69, [.ref 27, .int x1, .int x2, .int x3, .int x4, .int x5, .int x6, u7], [.int x6, .int x3, .ref 27], hp E w)) hM_123 3 rfl ?_
  refine Ev.callR hd hM_123 rfl (y := 114) (as := [.ref 27, .int x3, .int x6]) (rest := []) rfl (Nat.le_of_ble_eq_true rfl) h1 ?_
  refine Ev.run (c' := (72, [.ref 27, .int x1, .int x2, .int x3, .int x4, .int x5, .int x6, u7], [.int v1], hp E w1)) hM_123 0 rfl ?_
  refine Ev.ifF hM_123 rfl (cI_eqF c2) ?_
  refine Ev.run (c' := (82, [.ref 27, .int x1, .int x2, .int x3, .int x4, .int x5, .int x6, u7], [.int (-1 : Int32), .int x2, .int x1, .ref 33], hp E w1)) hM_123 5 rfl ?_
  refine Ev.icT hM_123 rfl (cI_neT c3) ?_
  refine Ev.run (c' := (93, [.ref 27, .int x1, .int x2, .int x3, .int x4, .int x5, .int x6, u7], [.int x6, .int x2, .int x1, .ref 33], hp E w1)) hM_123 2 rfl ?_
  refine Ev.callR hd hM_123 rfl (y := 113) (as := [.int x1, .int x2, .int x6]) (rest := [.ref 33]) rfl (Nat.le_of_ble_eq_true rfl) (place_spec) ?_
  refine Ev.run (c' := (96, [.ref 27, .int x1, .int x2, .int x3, .int x4, .int x5, .int x6, u7], [.int ((((x1 * (10 : Int32)) + x2) * (9 : Int32)) + x6), .ref 33], hp E w1)) hM_123 0 rfl ?_
  rw [g1]
  refine Ev.iald hM_123 rfl (a := 33) rfl (inb_I b1 (by decide)) ?_
  rw [I_clamp (Nat.lt_of_lt_of_le b1 (by decide))]
  refine Ev.run (c' := (107, [.ref 27, .int x1, .int x2, .int x3, .int x4, .int x5, .int x6, .int (gA w1 15 j1)], [.int x5, .int (gA w1 15 j1)], hp E w1)) hM_123 4 rfl ?_
  refine Ev.icT hM_123 rfl (cI_leT c4) ?_
  refine Ev.run (c' := (123, [.ref 27, .int x1, .int x2, .int x3, .int x4, .int x5, .int x6, .int (gA w1 15 j1)], [.int x5, .int (gA w1 15 j1)], hp E w1)) hM_123 4 rfl ?_
  refine Ev.icT hM_123 rfl (cI_leT c5) ?_
  refine Ev.run (c' := (56, [.ref 27, .int x1, .int x2, .int x3, .int x4, .int x5, .int (x6 + (1 : Int32)), .int (gA w1 15 j1)], [], hp E w1)) hM_123 4 rfl ?_
  exact e
theorem p123_56_i {E : Nat × (Nat → Int32)} {w : Wd} {d : Nat} {x1 x2 x3 x4 x5 x6 : Int32} {u7 : Value} {o : Ou} {w1 : Wd} {v1 : Int32} {y6 : Int32} (hd : 1 ≤ d) (c1 : x6 < (gF w 9)) (h1 : Ev (d - 1) 114 (ent0 114 [.ref 27, .int x3, .int x6] (hp E w)) (.inl (some (.int v1)), hp E w1)) (c2 : v1 = 0) (c3 : x5 < (-1 : Int32)) (c4 : x5 < (-1 : Int32)) (q6 : (x6 + (1 : Int32)) = y6) (e : Ev d 123 (56, [.ref 27, .int x1, .int x2, .int x3, .int x6, .int (-1 : Int32), .int y6, .int (-1 : Int32)], [], hp E w1) o) : Ev d 123 (56, [.ref 27, .int x1, .int x2, .int x3, .int x4, .int x5, .int x6, u7], [], hp E w) o := by
  subst q6
  refine Ev.run (c' := (62, [.ref 27, .int x1, .int x2, .int x3, .int x4, .int x5, .int x6, u7], [.int (gF w 9), .int x6], hp E w)) hM_123 3 rfl ?_
  refine Ev.icF hM_123 rfl (cI_geF c1) ?_
  refine Ev.run (c' := (69, [.ref 27, .int x1, .int x2, .int x3, .int x4, .int x5, .int x6, u7], [.int x6, .int x3, .ref 27], hp E w)) hM_123 3 rfl ?_
  refine Ev.callR hd hM_123 rfl (y := 114) (as := [.ref 27, .int x3, .int x6]) (rest := []) rfl (Nat.le_of_ble_eq_true rfl) h1 ?_
  refine Ev.run (c' := (72, [.ref 27, .int x1, .int x2, .int x3, .int x4, .int x5, .int x6, u7], [.int v1], hp E w1)) hM_123 0 rfl ?_
  refine Ev.ifT hM_123 rfl (cI_eqT c2) ?_
  refine Ev.run (c' := (107, [.ref 27, .int x1, .int x2, .int x3, .int x4, .int x5, .int x6, .int (-1 : Int32)], [.int x5, .int (-1 : Int32)], hp E w1)) hM_123 4 rfl ?_
  refine Ev.icF hM_123 rfl (cI_leF c3) ?_
  refine Ev.run (c' := (123, [.ref 27, .int x1, .int x2, .int x3, .int x6, .int x5, .int x6, .int (-1 : Int32)], [.int x5, .int (-1 : Int32)], hp E w1)) hM_123 5 rfl ?_
  refine Ev.icF hM_123 rfl (cI_leF c4) ?_
  refine Ev.run (c' := (56, [.ref 27, .int x1, .int x2, .int x3, .int x6, .int (-1 : Int32), .int (x6 + (1 : Int32)), .int (-1 : Int32)], [], hp E w1)) hM_123 5 rfl ?_
  exact e
theorem p123_56_j {E : Nat × (Nat → Int32)} {w : Wd} {d : Nat} {x1 x2 x3 x4 x5 x6 : Int32} {u7 : Value} {o : Ou} {w1 : Wd} {v1 : Int32} {y6 : Int32} (hd : 1 ≤ d) (c1 : x6 < (gF w 9)) (h1 : Ev (d - 1) 114 (ent0 114 [.ref 27, .int x3, .int x6] (hp E w)) (.inl (some (.int v1)), hp E w1)) (c2 : v1 = 0) (c3 : x5 < (-1 : Int32)) (c4 : ¬ x5 < (-1 : Int32)) (q6 : (x6 + (1 : Int32)) = y6) (e : Ev d 123 (56, [.ref 27, .int x1, .int x2, .int x3, .int x6, .int x5, .int y6, .int (-1 : Int32)], [], hp E w1) o) : Ev d 123 (56, [.ref 27, .int x1, .int x2, .int x3, .int x4, .int x5, .int x6, u7], [], hp E w) o := by
  subst q6
  refine Ev.run (c' := (62, [.ref 27, .int x1, .int x2, .int x3, .int x4, .int x5, .int x6, u7], [.int (gF w 9), .int x6], hp E w)) hM_123 3 rfl ?_
  refine Ev.icF hM_123 rfl (cI_geF c1) ?_
  refine Ev.run (c' := (69, [.ref 27, .int x1, .int x2, .int x3, .int x4, .int x5, .int x6, u7], [.int x6, .int x3, .ref 27], hp E w)) hM_123 3 rfl ?_
  refine Ev.callR hd hM_123 rfl (y := 114) (as := [.ref 27, .int x3, .int x6]) (rest := []) rfl (Nat.le_of_ble_eq_true rfl) h1 ?_
  refine Ev.run (c' := (72, [.ref 27, .int x1, .int x2, .int x3, .int x4, .int x5, .int x6, u7], [.int v1], hp E w1)) hM_123 0 rfl ?_
  refine Ev.ifT hM_123 rfl (cI_eqT c2) ?_
  refine Ev.run (c' := (107, [.ref 27, .int x1, .int x2, .int x3, .int x4, .int x5, .int x6, .int (-1 : Int32)], [.int x5, .int (-1 : Int32)], hp E w1)) hM_123 4 rfl ?_
  refine Ev.icF hM_123 rfl (cI_leF c3) ?_
  refine Ev.run (c' := (123, [.ref 27, .int x1, .int x2, .int x3, .int x6, .int x5, .int x6, .int (-1 : Int32)], [.int x5, .int (-1 : Int32)], hp E w1)) hM_123 5 rfl ?_
  refine Ev.icT hM_123 rfl (cI_leT c4) ?_
  refine Ev.run (c' := (56, [.ref 27, .int x1, .int x2, .int x3, .int x6, .int x5, .int (x6 + (1 : Int32)), .int (-1 : Int32)], [], hp E w1)) hM_123 4 rfl ?_
  exact e
theorem p123_56_k {E : Nat × (Nat → Int32)} {w : Wd} {d : Nat} {x1 x2 x3 x4 x5 x6 : Int32} {u7 : Value} {o : Ou} {w1 : Wd} {v1 : Int32} {y6 : Int32} (hd : 1 ≤ d) (c1 : x6 < (gF w 9)) (h1 : Ev (d - 1) 114 (ent0 114 [.ref 27, .int x3, .int x6] (hp E w)) (.inl (some (.int v1)), hp E w1)) (c2 : v1 = 0) (c3 : ¬ x5 < (-1 : Int32)) (c4 : x5 < (-1 : Int32)) (q6 : (x6 + (1 : Int32)) = y6) (e : Ev d 123 (56, [.ref 27, .int x1, .int x2, .int x3, .int x4, .int (-1 : Int32), .int y6, .int (-1 : Int32)], [], hp E w1) o) : Ev d 123 (56, [.ref 27, .int x1, .int x2, .int x3, .int x4, .int x5, .int x6, u7], [], hp E w) o := by
  subst q6
  refine Ev.run (c' := (62, [.ref 27, .int x1, .int x2, .int x3, .int x4, .int x5, .int x6, u7], [.int (gF w 9), .int x6], hp E w)) hM_123 3 rfl ?_
  refine Ev.icF hM_123 rfl (cI_geF c1) ?_
  refine Ev.run (c' := (69, [.ref 27, .int x1, .int x2, .int x3, .int x4, .int x5, .int x6, u7], [.int x6, .int x3, .ref 27], hp E w)) hM_123 3 rfl ?_
  refine Ev.callR hd hM_123 rfl (y := 114) (as := [.ref 27, .int x3, .int x6]) (rest := []) rfl (Nat.le_of_ble_eq_true rfl) h1 ?_
  refine Ev.run (c' := (72, [.ref 27, .int x1, .int x2, .int x3, .int x4, .int x5, .int x6, u7], [.int v1], hp E w1)) hM_123 0 rfl ?_
  refine Ev.ifT hM_123 rfl (cI_eqT c2) ?_
  refine Ev.run (c' := (107, [.ref 27, .int x1, .int x2, .int x3, .int x4, .int x5, .int x6, .int (-1 : Int32)], [.int x5, .int (-1 : Int32)], hp E w1)) hM_123 4 rfl ?_
  refine Ev.icT hM_123 rfl (cI_leT c3) ?_
  refine Ev.run (c' := (123, [.ref 27, .int x1, .int x2, .int x3, .int x4, .int x5, .int x6, .int (-1 : Int32)], [.int x5, .int (-1 : Int32)], hp E w1)) hM_123 4 rfl ?_
  refine Ev.icF hM_123 rfl (cI_leF c4) ?_
  refine Ev.run (c' := (56, [.ref 27, .int x1, .int x2, .int x3, .int x4, .int (-1 : Int32), .int (x6 + (1 : Int32)), .int (-1 : Int32)], [], hp E w1)) hM_123 5 rfl ?_
  exact e
theorem p123_56_l {E : Nat × (Nat → Int32)} {w : Wd} {d : Nat} {x1 x2 x3 x4 x5 x6 : Int32} {u7 : Value} {o : Ou} {w1 : Wd} {v1 : Int32} {y6 : Int32} (hd : 1 ≤ d) (c1 : x6 < (gF w 9)) (h1 : Ev (d - 1) 114 (ent0 114 [.ref 27, .int x3, .int x6] (hp E w)) (.inl (some (.int v1)), hp E w1)) (c2 : v1 = 0) (c3 : ¬ x5 < (-1 : Int32)) (c4 : ¬ x5 < (-1 : Int32)) (q6 : (x6 + (1 : Int32)) = y6) (e : Ev d 123 (56, [.ref 27, .int x1, .int x2, .int x3, .int x4, .int x5, .int y6, .int (-1 : Int32)], [], hp E w1) o) : Ev d 123 (56, [.ref 27, .int x1, .int x2, .int x3, .int x4, .int x5, .int x6, u7], [], hp E w) o := by
  subst q6
  refine Ev.run (c' := (62, [.ref 27, .int x1, .int x2, .int x3, .int x4, .int x5, .int x6, u7], [.int (gF w 9), .int x6], hp E w)) hM_123 3 rfl ?_
  refine Ev.icF hM_123 rfl (cI_geF c1) ?_
  refine Ev.run (c' := (69, [.ref 27, .int x1, .int x2, .int x3, .int x4, .int x5, .int x6, u7], [.int x6, .int x3, .ref 27], hp E w)) hM_123 3 rfl ?_
  refine Ev.callR hd hM_123 rfl (y := 114) (as := [.ref 27, .int x3, .int x6]) (rest := []) rfl (Nat.le_of_ble_eq_true rfl) h1 ?_
  refine Ev.run (c' := (72, [.ref 27, .int x1, .int x2, .int x3, .int x4, .int x5, .int x6, u7], [.int v1], hp E w1)) hM_123 0 rfl ?_
  refine Ev.ifT hM_123 rfl (cI_eqT c2) ?_
  refine Ev.run (c' := (107, [.ref 27, .int x1, .int x2, .int x3, .int x4, .int x5, .int x6, .int (-1 : Int32)], [.int x5, .int (-1 : Int32)], hp E w1)) hM_123 4 rfl ?_
  refine Ev.icT hM_123 rfl (cI_leT c3) ?_
  refine Ev.run (c' := (123, [.ref 27, .int x1, .int x2, .int x3, .int x4, .int x5, .int x6, .int (-1 : Int32)], [.int x5, .int (-1 : Int32)], hp E w1)) hM_123 4 rfl ?_
  refine Ev.icT hM_123 rfl (cI_leT c4) ?_
  refine Ev.run (c' := (56, [.ref 27, .int x1, .int x2, .int x3, .int x4, .int x5, .int (x6 + (1 : Int32)), .int (-1 : Int32)], [], hp E w1)) hM_123 4 rfl ?_
  exact e
theorem p123_56_m {E : Nat × (Nat → Int32)} {w : Wd} {d : Nat} {x1 x2 x3 x4 x5 x6 : Int32} {u7 : Value}  (c1 : ¬ x6 < (gF w 9)) : Ev d 123 (56, [.ref 27, .int x1, .int x2, .int x3, .int x4, .int x5, .int x6, u7], [], hp E w) (.inl (some (.int x4)), hp E w) := by
  refine Ev.run (c' := (62, [.ref 27, .int x1, .int x2, .int x3, .int x4, .int x5, .int x6, u7], [.int (gF w 9), .int x6], hp E w)) hM_123 3 rfl ?_
  refine Ev.icT hM_123 rfl (cI_geT c1) ?_
  refine Ev.run (c' := (143, [.ref 27, .int x1, .int x2, .int x3, .int x4, .int x5, .int x6, u7], [.int x4], hp E w)) hM_123 1 rfl ?_
  exact Ev.fin hM_123 rfl rfl
theorem hM_124 : mAt 124 = some km_X8_catches := rfl
theorem p124_e_a {E : Nat × (Nat → Int32)} {w : Wd} {d : Nat} {x1 : Int32} {w1 : Wd} {v1 : Int32} (hd : 1 ≤ d) (c1 : ¬ x1 < (1 : Int32)) (c2 : (2 : Int32) < x1) (h1 : Ev (d - 1) 97 (ent0 97 [.ref 27, .int (1 : Int32)] (hp E (sF 8 (0 : Int32) w))) (.inl (some (.int v1)), hp E w1)) : Ev d 124 (ent0 124 [.ref 27, .int x1] (hp E w)) (.inl (some (.int (0 : Int32))), hp E w1) := by
  refine Ev.run (c' := (7, [.ref 27, .int x1, jk, jk, jk, jk], [.int (1 : Int32), .int x1], hp E (sF 8 (0 : Int32) w))) hM_124 5 rfl ?_
  refine Ev.icF hM_124 rfl (cI_ltF c1) ?_
  refine Ev.run (c' := (12, [.ref 27, .int x1, jk, jk, jk, jk], [.int (2 : Int32), .int x1], hp E (sF 8 (0 : Int32) w))) hM_124 2 rfl ?_
  refine Ev.icF hM_124 rfl (cI_leF c2) ?_
  refine Ev.run (c' := (17, [.ref 27, .int x1, jk, jk, jk, jk], [.int (1 : Int32), .ref 27], hp E (sF 8 (0 : Int32) w))) hM_124 2 rfl ?_
  refine Ev.callR hd hM_124 rfl (y := 97) (as := [.ref 27, .int (1 : Int32)]) (rest := []) rfl (Nat.le_of_ble_eq_true rfl) h1 ?_
  refine Ev.run (c' := (22, [.ref 27, .int x1, jk, jk, jk, jk], [.int (0 : Int32)], hp E w1)) hM_124 2 rfl ?_
  exact Ev.fin hM_124 rfl rfl
theorem p124_e_b {E : Nat × (Nat → Int32)} {w : Wd} {d : Nat} {x1 : Int32} {o : Ou} {w1 : Wd} (hd : 1 ≤ d) (c1 : ¬ x1 < (1 : Int32)) (c2 : ¬ (2 : Int32) < x1) (c3 : x1 = (1 : Int32)) (h1 : Ev (d - 1) 118 (ent0 118 [.ref 27, .int (1 : Int32)] (hp E (sF 8 (0 : Int32) w))) (.inl none, hp E w1)) (e : Ev d 124 (39, [.ref 27, .int x1, .int (0 : Int32), jk, jk, jk], [], hp E w1) o) : Ev d 124 (ent0 124 [.ref 27, .int x1] (hp E w)) o := by
  refine Ev.run (c' := (7, [.ref 27, .int x1, jk, jk, jk, jk], [.int (1 : Int32), .int x1], hp E (sF 8 (0 : Int32) w))) hM_124 5 rfl ?_
  refine Ev.icF hM_124 rfl (cI_ltF c1) ?_
  refine Ev.run (c' := (12, [.ref 27, .int x1, jk, jk, jk, jk], [.int (2 : Int32), .int x1], hp E (sF 8 (0 : Int32) w))) hM_124 2 rfl ?_
  refine Ev.icT hM_124 rfl (cI_leT c2) ?_
  refine Ev.run (c' := (26, [.ref 27, .int x1, jk, jk, jk, jk], [.int (1 : Int32), .int x1, .ref 27], hp E (sF 8 (0 : Int32) w))) hM_124 3 rfl ?_
  refine Ev.icF hM_124 rfl (cI_neF c3) ?_
  refine Ev.run (c' := (34, [.ref 27, .int x1, jk, jk, jk, jk], [.int (1 : Int32), .ref 27], hp E (sF 8 (0 : Int32) w))) hM_124 2 rfl ?_
  refine Ev.callR hd hM_124 rfl (y := 118) (as := [.ref 27, .int (1 : Int32)]) (rest := []) rfl (Nat.le_of_ble_eq_true rfl) h1 ?_
  refine Ev.run (c' := (39, [.ref 27, .int x1, .int (0 : Int32), jk, jk, jk], [], hp E w1)) hM_124 2 rfl ?_
  exact e
theorem p124_e_c {E : Nat × (Nat → Int32)} {w : Wd} {d : Nat} {x1 : Int32} {o : Ou} {w1 : Wd} (hd : 1 ≤ d) (c1 : ¬ x1 < (1 : Int32)) (c2 : ¬ (2 : Int32) < x1) (c3 : ¬ x1 = (1 : Int32)) (h1 : Ev (d - 1) 118 (ent0 118 [.ref 27, .int (0 : Int32)] (hp E (sF 8 (0 : Int32) w))) (.inl none, hp E w1)) (e : Ev d 124 (39, [.ref 27, .int x1, .int (0 : Int32), jk, jk, jk], [], hp E w1) o) : Ev d 124 (ent0 124 [.ref 27, .int x1] (hp E w)) o := by
  refine Ev.run (c' := (7, [.ref 27, .int x1, jk, jk, jk, jk], [.int (1 : Int32), .int x1], hp E (sF 8 (0 : Int32) w))) hM_124 5 rfl ?_
  refine Ev.icF hM_124 rfl (cI_ltF c1) ?_
  refine Ev.run (c' := (12, [.ref 27, .int x1, jk, jk, jk, jk], [.int (2 : Int32), .int x1], hp E (sF 8 (0 : Int32) w))) hM_124 2 rfl ?_
  refine Ev.icT hM_124 rfl (cI_leT c2) ?_
  refine Ev.run (c' := (26, [.ref 27, .int x1, jk, jk, jk, jk], [.int (1 : Int32), .int x1, .ref 27], hp E (sF 8 (0 : Int32) w))) hM_124 3 rfl ?_
  refine Ev.icT hM_124 rfl (cI_neT c3) ?_
  refine Ev.run (c' := (34, [.ref 27, .int x1, jk, jk, jk, jk], [.int (0 : Int32), .ref 27], hp E (sF 8 (0 : Int32) w))) hM_124 1 rfl ?_
  refine Ev.callR hd hM_124 rfl (y := 118) (as := [.ref 27, .int (0 : Int32)]) (rest := []) rfl (Nat.le_of_ble_eq_true rfl) h1 ?_
  refine Ev.run (c' := (39, [.ref 27, .int x1, .int (0 : Int32), jk, jk, jk], [], hp E w1)) hM_124 2 rfl ?_
  exact e
theorem p124_e_d {E : Nat × (Nat → Int32)} {w : Wd} {d : Nat} {x1 : Int32} {w1 : Wd} {v1 : Int32} (hd : 1 ≤ d) (c1 : x1 < (1 : Int32)) (h1 : Ev (d - 1) 97 (ent0 97 [.ref 27, .int (1 : Int32)] (hp E (sF 8 (0 : Int32) w))) (.inl (some (.int v1)), hp E w1)) : Ev d 124 (ent0 124 [.ref 27, .int x1] (hp E w)) (.inl (some (.int (0 : Int32))), hp E w1) := by
  refine Ev.run (c' := (7, [.ref 27, .int x1, jk, jk, jk, jk], [.int (1 : Int32), .int x1], hp E (sF 8 (0 : Int32) w))) hM_124 5 rfl ?_
  refine Ev.icT hM_124 rfl (cI_ltT c1) ?_
  refine Ev.run (c' := (17, [.ref 27, .int x1, jk, jk, jk, jk], [.int (1 : Int32), .ref 27], hp E (sF 8 (0 : Int32) w))) hM_124 2 rfl ?_
  refine Ev.callR hd hM_124 rfl (y := 97) (as := [.ref 27, .int (1 : Int32)]) (rest := []) rfl (Nat.le_of_ble_eq_true rfl) h1 ?_
  refine Ev.run (c' := (22, [.ref 27, .int x1, jk, jk, jk, jk], [.int (0 : Int32)], hp E w1)) hM_124 2 rfl ?_
  exact Ev.fin hM_124 rfl rfl
theorem p124_39_a {E : Nat × (Nat → Int32)} {w : Wd} {d : Nat} {x1 x2 : Int32} {u3 u4 u5 : Value} {o : Ou}  (c1 : x2 < (gF w 9)) (c2 : x1 = (1 : Int32)) (e : Ev d 124 (59, [.ref 27, .int x1, .int x2, .int (9 : Int32), u4, u5], [], hp E w) o) : Ev d 124 (39, [.ref 27, .int x1, .int x2, u3, u4, u5], [], hp E w) o := by
  refine Ev.run (c' := (44, [.ref 27, .int x1, .int x2, u3, u4, u5], [.int (gF w 9), .int x2], hp E w)) hM_124 3 rfl ?_
  refine Ev.icF hM_124 rfl (cI_geF c1) ?_
  refine Ev.run (c' := (49, [.ref 27, .int x1, .int x2, u3, u4, u5], [.int (1 : Int32), .int x1], hp E w)) hM_124 2 rfl ?_
  refine Ev.icF hM_124 rfl (cI_neF c2) ?_
  refine Ev.run (c' := (59, [.ref 27, .int x1, .int x2, .int (9 : Int32), u4, u5], [], hp E w)) hM_124 3 rfl ?_
  exact e
theorem p124_39_b {E : Nat × (Nat → Int32)} {w : Wd} {d : Nat} {x1 x2 : Int32} {u3 u4 u5 : Value} {o : Ou}  (c1 : x2 < (gF w 9)) (c2 : ¬ x1 = (1 : Int32)) (e : Ev d 124 (59, [.ref 27, .int x1, .int x2, .int (0 : Int32), u4, u5], [], hp E w) o) : Ev d 124 (39, [.ref 27, .int x1, .int x2, u3, u4, u5], [], hp E w) o := by
  refine Ev.run (c' := (44, [.ref 27, .int x1, .int x2, u3, u4, u5], [.int (gF w 9), .int x2], hp E w)) hM_124 3 rfl ?_
  refine Ev.icF hM_124 rfl (cI_geF c1) ?_
  refine Ev.run (c' := (49, [.ref 27, .int x1, .int x2, u3, u4, u5], [.int (1 : Int32), .int x1], hp E w)) hM_124 2 rfl ?_
  refine Ev.icT hM_124 rfl (cI_neT c2) ?_
  refine Ev.run (c' := (59, [.ref 27, .int x1, .int x2, .int (0 : Int32), u4, u5], [], hp E w)) hM_124 2 rfl ?_
  exact e
theorem p124_39_c {E : Nat × (Nat → Int32)} {w : Wd} {d : Nat} {x1 x2 : Int32} {u3 u4 u5 : Value}  (c1 : ¬ x2 < (gF w 9)) : Ev d 124 (39, [.ref 27, .int x1, .int x2, u3, u4, u5], [], hp E w) (.inl (some (.int (0 : Int32))), hp E w) := by
  refine Ev.run (c' := (44, [.ref 27, .int x1, .int x2, u3, u4, u5], [.int (gF w 9), .int x2], hp E w)) hM_124 3 rfl ?_
  refine Ev.icT hM_124 rfl (cI_geT c1) ?_
  refine Ev.run (c' := (149, [.ref 27, .int x1, .int x2, u3, u4, u5], [.int (0 : Int32)], hp E w)) hM_124 1 rfl ?_
  exact Ev.fin hM_124 rfl rfl
theorem p124_59_a {E : Nat × (Nat → Int32)} {w : Wd} {d : Nat} {x1 x2 x3 : Int32} {u4 u5 : Value} {o : Ou}  (c1 : x1 = (1 : Int32)) (c2 : ¬ (9 : Int32) < x3) (e : Ev d 124 (85, [.ref 27, .int x1, .int x2, .int x3, .int (1 : Int32), .int (0 : Int32)], [], hp E w) o) : Ev d 124 (59, [.ref 27, .int x1, .int x2, .int x3, u4, u5], [], hp E w) o := by
  refine Ev.run (c' := (62, [.ref 27, .int x1, .int x2, .int x3, u4, u5], [.int (1 : Int32), .int x1, .int x3], hp E w)) hM_124 3 rfl ?_
  refine Ev.icF hM_124 rfl (cI_neF c1) ?_
  refine Ev.run (c' := (76, [.ref 27, .int x1, .int x2, .int x3, u4, u5], [.int (9 : Int32), .int x3], hp E w)) hM_124 2 rfl ?_
  refine Ev.icF hM_124 rfl (cI_gtF c2) ?_
  refine Ev.run (c' := (85, [.ref 27, .int x1, .int x2, .int x3, .int (1 : Int32), .int (0 : Int32)], [], hp E w)) hM_124 4 rfl ?_
  exact e
theorem p124_59_b {E : Nat × (Nat → Int32)} {w : Wd} {d : Nat} {x1 x2 x3 : Int32} {u4 u5 : Value} {o : Ou} {y2 : Int32} (c1 : x1 = (1 : Int32)) (c2 : (9 : Int32) < x3) (q2 : (x2 + (1 : Int32)) = y2) (e : Ev d 124 (39, [.ref 27, .int x1, .int y2, .int x3, u4, u5], [], hp E w) o) : Ev d 124 (59, [.ref 27, .int x1, .int x2, .int x3, u4, u5], [], hp E w) o := by
  subst q2
  refine Ev.run (c' := (62, [.ref 27, .int x1, .int x2, .int x3, u4, u5], [.int (1 : Int32), .int x1, .int x3], hp E w)) hM_124 3 rfl ?_
  refine Ev.icF hM_124 rfl (cI_neF c1) ?_
  refine Ev.run (c' := (76, [.ref 27, .int x1, .int x2, .int x3, u4, u5], [.int (9 : Int32), .int x3], hp E w)) hM_124 2 rfl ?_
  refine Ev.icT hM_124 rfl (cI_gtT c2) ?_
  refine Ev.run (c' := (39, [.ref 27, .int x1, .int (x2 + (1 : Int32)), .int x3, u4, u5], [], hp E w)) hM_124 2 rfl ?_
  exact e
theorem p124_59_c {E : Nat × (Nat → Int32)} {w : Wd} {d : Nat} {x1 x2 x3 : Int32} {u4 u5 : Value} {o : Ou}  (c1 : ¬ x1 = (1 : Int32)) (c2 : ¬ ((gF w 9) - (1 : Int32)) < x3) (e : Ev d 124 (85, [.ref 27, .int x1, .int x2, .int x3, .int (1 : Int32), .int (0 : Int32)], [], hp E w) o) : Ev d 124 (59, [.ref 27, .int x1, .int x2, .int x3, u4, u5], [], hp E w) o := by
  refine Ev.run (c' := (62, [.ref 27, .int x1, .int x2, .int x3, u4, u5], [.int (1 : Int32), .int x1, .int x3], hp E w)) hM_124 3 rfl ?_
  refine Ev.icT hM_124 rfl (cI_neT c1) ?_
  refine Ev.run (c' := (76, [.ref 27, .int x1, .int x2, .int x3, u4, u5], [.int ((gF w 9) - (1 : Int32)), .int x3], hp E w)) hM_124 4 rfl ?_
  refine Ev.icF hM_124 rfl (cI_gtF c2) ?_
  refine Ev.run (c' := (85, [.ref 27, .int x1, .int x2, .int x3, .int (1 : Int32), .int (0 : Int32)], [], hp E w)) hM_124 4 rfl ?_
  exact e
theorem p124_59_d {E : Nat × (Nat → Int32)} {w : Wd} {d : Nat} {x1 x2 x3 : Int32} {u4 u5 : Value} {o : Ou} {y2 : Int32} (c1 : ¬ x1 = (1 : Int32)) (c2 : ((gF w 9) - (1 : Int32)) < x3) (q2 : (x2 + (1 : Int32)) = y2) (e : Ev d 124 (39, [.ref 27, .int x1, .int y2, .int x3, u4, u5], [], hp E w) o) : Ev d 124 (59, [.ref 27, .int x1, .int x2, .int x3, u4, u5], [], hp E w) o := by
  subst q2
  refine Ev.run (c' := (62, [.ref 27, .int x1, .int x2, .int x3, u4, u5], [.int (1 : Int32), .int x1, .int x3], hp E w)) hM_124 3 rfl ?_
  refine Ev.icT hM_124 rfl (cI_neT c1) ?_
  refine Ev.run (c' := (76, [.ref 27, .int x1, .int x2, .int x3, u4, u5], [.int ((gF w 9) - (1 : Int32)), .int x3], hp E w)) hM_124 4 rfl ?_
  refine Ev.icT hM_124 rfl (cI_gtT c2) ?_
  refine Ev.run (c' := (39, [.ref 27, .int x1, .int (x2 + (1 : Int32)), .int x3, u4, u5], [], hp E w)) hM_124 2 rfl ?_
  exact e
theorem p124_85_a {E : Nat × (Nat → Int32)} {w : Wd} {d : Nat} {x1 x2 x3 x4 x5 : Int32} {o : Ou} {j1 : Nat} {y5 : Int32} (hd : 1 ≤ d) (c1 : x5 < (gF w 9)) (c2 : ¬ x4 = 0) (g1 : ((((x2 * (10 : Int32)) + x3) * (9 : Int32)) + x5) = I j1) (b1 : j1 < 810) (c3 : (gA w 15 j1) < (99 : Int32)) (q5 : (x5 + (1 : Int32)) = y5) (e : Ev d 124 (85, [.ref 27, .int x1, .int x2, .int x3, .int (1 : Int32), .int y5], [], hp E w) o) : Ev d 124 (85, [.ref 27, .int x1, .int x2, .int x3, .int x4, .int x5], [], hp E w) o := by
  subst q5
  refine Ev.run (c' := (91, [.ref 27, .int x1, .int x2, .int x3, .int x4, .int x5], [.int (gF w 9), .int x5], hp E w)) hM_124 3 rfl ?_
  refine Ev.icF hM_124 rfl (cI_geF c1) ?_
  refine Ev.run (c' := (96, [.ref 27, .int x1, .int x2, .int x3, .int x4, .int x5], [.int x4], hp E w)) hM_124 1 rfl ?_
  refine Ev.ifF hM_124 rfl (cI_eqF c2) ?_
  refine Ev.run (c' := (107, [.ref 27, .int x1, .int x2, .int x3, .int x4, .int x5], [.int x5, .int x3, .int x2, .ref 33], hp E w)) hM_124 5 rfl ?_
  refine Ev.callR hd hM_124 rfl (y := 113) (as := [.int x2, .int x3, .int x5]) (rest := [.ref 33]) rfl (Nat.le_of_ble_eq_true rfl) (place_spec) ?_
  refine Ev.run (c' := (110, [.ref 27, .int x1, .int x2, .int x3, .int x4, .int x5], [.int ((((x2 * (10 : Int32)) + x3) * (9 : Int32)) + x5), .ref 33], hp E w)) hM_124 0 rfl ?_
  rw [g1]
  refine Ev.iald hM_124 rfl (a := 33) rfl (inb_I b1 (by decide)) ?_
  rw [I_clamp (Nat.lt_of_lt_of_le b1 (by decide))]
  refine Ev.run (c' := (113, [.ref 27, .int x1, .int x2, .int x3, .int x4, .int x5], [.int (99 : Int32), .int (gA w 15 j1)], hp E w)) hM_124 1 rfl ?_
  refine Ev.icF hM_124 rfl (cI_geF c3) ?_
  refine Ev.run (c' := (85, [.ref 27, .int x1, .int x2, .int x3, .int (1 : Int32), .int (x5 + (1 : Int32))], [], hp E w)) hM_124 5 rfl ?_
  exact e
theorem p124_85_b {E : Nat × (Nat → Int32)} {w : Wd} {d : Nat} {x1 x2 x3 x4 x5 : Int32} {o : Ou} {j1 : Nat} {y5 : Int32} (hd : 1 ≤ d) (c1 : x5 < (gF w 9)) (c2 : ¬ x4 = 0) (g1 : ((((x2 * (10 : Int32)) + x3) * (9 : Int32)) + x5) = I j1) (b1 : j1 < 810) (c3 : ¬ (gA w 15 j1) < (99 : Int32)) (q5 : (x5 + (1 : Int32)) = y5) (e : Ev d 124 (85, [.ref 27, .int x1, .int x2, .int x3, .int (0 : Int32), .int y5], [], hp E w) o) : Ev d 124 (85, [.ref 27, .int x1, .int x2, .int x3, .int x4, .int x5], [], hp E w) o := by
  subst q5
  refine Ev.run (c' := (91, [.ref 27, .int x1, .int x2, .int x3, .int x4, .int x5], [.int (gF w 9), .int x5], hp E w)) hM_124 3 rfl ?_
  refine Ev.icF hM_124 rfl (cI_geF c1) ?_
  refine Ev.run (c' := (96, [.ref 27, .int x1, .int x2, .int x3, .int x4, .int x5], [.int x4], hp E w)) hM_124 1 rfl ?_
  refine Ev.ifF hM_124 rfl (cI_eqF c2) ?_
  refine Ev.run (c' := (107, [.ref 27, .int x1, .int x2, .int x3, .int x4, .int x5], [.int x5, .int x3, .int x2, .ref 33], hp E w)) hM_124 5 rfl ?_
  refine Ev.callR hd hM_124 rfl (y := 113) (as := [.int x2, .int x3, .int x5]) (rest := [.ref 33]) rfl (Nat.le_of_ble_eq_true rfl) (place_spec) ?_
  refine Ev.run (c' := (110, [.ref 27, .int x1, .int x2, .int x3, .int x4, .int x5], [.int ((((x2 * (10 : Int32)) + x3) * (9 : Int32)) + x5), .ref 33], hp E w)) hM_124 0 rfl ?_
  rw [g1]
  refine Ev.iald hM_124 rfl (a := 33) rfl (inb_I b1 (by decide)) ?_
  rw [I_clamp (Nat.lt_of_lt_of_le b1 (by decide))]
  refine Ev.run (c' := (113, [.ref 27, .int x1, .int x2, .int x3, .int x4, .int x5], [.int (99 : Int32), .int (gA w 15 j1)], hp E w)) hM_124 1 rfl ?_
  refine Ev.icT hM_124 rfl (cI_geT c3) ?_
  refine Ev.run (c' := (85, [.ref 27, .int x1, .int x2, .int x3, .int (0 : Int32), .int (x5 + (1 : Int32))], [], hp E w)) hM_124 4 rfl ?_
  exact e
theorem p124_85_c {E : Nat × (Nat → Int32)} {w : Wd} {d : Nat} {x1 x2 x3 x4 x5 : Int32} {o : Ou} {y5 : Int32} (c1 : x5 < (gF w 9)) (c2 : x4 = 0) (q5 : (x5 + (1 : Int32)) = y5) (e : Ev d 124 (85, [.ref 27, .int x1, .int x2, .int x3, .int (0 : Int32), .int y5], [], hp E w) o) : Ev d 124 (85, [.ref 27, .int x1, .int x2, .int x3, .int x4, .int x5], [], hp E w) o := by
  subst q5
  refine Ev.run (c' := (91, [.ref 27, .int x1, .int x2, .int x3, .int x4, .int x5], [.int (gF w 9), .int x5], hp E w)) hM_124 3 rfl ?_
  refine Ev.icF hM_124 rfl (cI_geF c1) ?_
  refine Ev.run (c' := (96, [.ref 27, .int x1, .int x2, .int x3, .int x4, .int x5], [.int x4], hp E w)) hM_124 1 rfl ?_
  refine Ev.ifT hM_124 rfl (cI_eqT c2) ?_
  refine Ev.run (c' := (85, [.ref 27, .int x1, .int x2, .int x3, .int (0 : Int32), .int (x5 + (1 : Int32))], [], hp E w)) hM_124 4 rfl ?_
  exact e
theorem p124_85_d {E : Nat × (Nat → Int32)} {w : Wd} {d : Nat} {x1 x2 x3 x4 x5 : Int32}  (c1 : ¬ x5 < (gF w 9)) (c2 : ¬ x4 = 0) : Ev d 124 (85, [.ref 27, .int x1, .int x2, .int x3, .int x4, .int x5], [], hp E w) (.inl (some (.int (1 : Int32))), hp E w) := by
  refine Ev.run (c' := (91, [.ref 27, .int x1, .int x2, .int x3, .int x4, .int x5], [.int (gF w 9), .int x5], hp E w)) hM_124 3 rfl ?_
  refine Ev.icT hM_124 rfl (cI_geT c1) ?_
  refine Ev.run (c' := (131, [.ref 27, .int x1, .int x2, .int x3, .int x4, .int x5], [.int x4], hp E w)) hM_124 1 rfl ?_
  refine Ev.ifF hM_124 rfl (cI_eqF c2) ?_
  refine Ev.run (c' := (135, [.ref 27, .int x1, .int x2, .int x3, .int x4, .int x5], [.int (1 : Int32)], hp E w)) hM_124 1 rfl ?_
  exact Ev.fin hM_124 rfl rfl
theorem p124_85_e {E : Nat × (Nat → Int32)} {w : Wd} {d : Nat} {x1 x2 x3 x4 x5 : Int32} {o : Ou} {y3 : Int32} (c1 : ¬ x5 < (gF w 9)) (c2 : x4 = 0) (q3 : (x3 + (1 : Int32)) = y3) (e : Ev d 124 (59, [.ref 27, .int x1, .int x2, .int y3, .int x4, .int x5], [], hp E w) o) : Ev d 124 (85, [.ref 27, .int x1, .int x2, .int x3, .int x4, .int x5], [], hp E w) o := by
  subst q3
  refine Ev.run (c' := (91, [.ref 27, .int x1, .int x2, .int x3, .int x4, .int x5], [.int (gF w 9), .int x5], hp E w)) hM_124 3 rfl ?_
  refine Ev.icT hM_124 rfl (cI_geT c1) ?_
  refine Ev.run (c' := (131, [.ref 27, .int x1, .int x2, .int x3, .int x4, .int x5], [.int x4], hp E w)) hM_124 1 rfl ?_
  refine Ev.ifT hM_124 rfl (cI_eqT c2) ?_
  refine Ev.run (c' := (59, [.ref 27, .int x1, .int x2, .int (x3 + (1 : Int32)), .int x4, .int x5], [], hp E w)) hM_124 2 rfl ?_
  exact e
theorem hM_125 : mAt 125 = some km_X8_isCorner := rfl
theorem p125_e_a {E : Nat × (Nat → Int32)} {w : Wd} {d : Nat} {x1 x2 : Int32} {o : Ou} {j1 : Nat} {y1 : Int32} {y3 : Int32} (g1 : x1 = I j1) (b1 : j1 < 9) (q1 : (I j1) = y1) (q3 : (((gA w 10 j1) ||| ((1 : Int32) <<< ((I j1) &&& 31))) &&& x2) = y3) (e : Ev d 125 (16, [.ref 27, .int y1, .int x2, .int y3, .int (0 : Int32), jk], [], hp E w) o) : Ev d 125 (ent0 125 [.ref 27, .int x1, .int x2] (hp E w)) o := by
  subst q3
  subst q1
  refine Ev.run (c' := (5, [.ref 27, .int x1, .int x2, jk, jk, jk], [.int x1, .ref 28], hp E w)) hM_125 3 rfl ?_
  subst g1
  refine Ev.iald hM_125 rfl (a := 28) rfl (inb_I b1 (by decide)) ?_
  rw [I_clamp (Nat.lt_of_lt_of_le b1 (by decide))]
  refine Ev.run (c' := (16, [.ref 27, .int (I j1), .int x2, .int (((gA w 10 j1) ||| ((1 : Int32) <<< ((I j1) &&& 31))) &&& x2), .int (0 : Int32), jk], [], hp E w)) hM_125 9 rfl ?_
  exact e
theorem p125_16_a {E : Nat × (Nat → Int32)} {w : Wd} {d : Nat} {x1 x2 x3 x4 : Int32} {u5 : Value} {j1 : Nat} (c1 : x4 < (gF w 9)) (g1 : x4 = I j1) (b1 : j1 < 9) (c2 : ¬ (I j1) = x1) (c3 : ((x2 >>> ((I j1) &&& 31)) &&& (1 : Int32)) = (1 : Int32)) (c4 : (x3 &&& ((((gA w 10 j1) ||| ((1 : Int32) <<< ((I j1) &&& 31))) &&& x2) ^^^ (-1 : Int32))) = 0) : Ev d 125 (16, [.ref 27, .int x1, .int x2, .int x3, .int x4, u5], [], hp E w) (.inl (some (.int (1 : Int32))), hp E w) := by
  refine Ev.run (c' := (22, [.ref 27, .int x1, .int x2, .int x3, .int x4, u5], [.int (gF w 9), .int x4], hp E w)) hM_125 3 rfl ?_
  refine Ev.icF hM_125 rfl (cI_geF c1) ?_
  refine Ev.run (c' := (31, [.ref 27, .int x1, .int x2, .int x3, .int x4, u5], [.int x4, .ref 28], hp E w)) hM_125 3 rfl ?_
  subst g1
  refine Ev.iald hM_125 rfl (a := 28) rfl (inb_I b1 (by decide)) ?_
  rw [I_clamp (Nat.lt_of_lt_of_le b1 (by decide))]
  refine Ev.run (c' := (44, [.ref 27, .int x1, .int x2, .int x3, .int (I j1), .int (((gA w 10 j1) ||| ((1 : Int32) <<< ((I j1) &&& 31))) &&& x2)], [.int x1, .int (I j1)], hp E w)) hM_125 9 rfl ?_
  refine Ev.icF hM_125 rfl (cI_eqF c2) ?_
  refine Ev.run (c' := (54, [.ref 27, .int x1, .int x2, .int x3, .int (I j1), .int (((gA w 10 j1) ||| ((1 : Int32) <<< ((I j1) &&& 31))) &&& x2)], [.int (1 : Int32), .int ((x2 >>> ((I j1) &&& 31)) &&& (1 : Int32))], hp E w)) hM_125 6 rfl ?_
  refine Ev.icF hM_125 rfl (cI_neF c3) ?_
  refine Ev.run (c' := (63, [.ref 27, .int x1, .int x2, .int x3, .int (I j1), .int (((gA w 10 j1) ||| ((1 : Int32) <<< ((I j1) &&& 31))) &&& x2)], [.int (x3 &&& ((((gA w 10 j1) ||| ((1 : Int32) <<< ((I j1) &&& 31))) &&& x2) ^^^ (-1 : Int32)))], hp E w)) hM_125 5 rfl ?_
  refine Ev.ifF hM_125 rfl (cI_neF c4) ?_
  refine Ev.run (c' := (67, [.ref 27, .int x1, .int x2, .int x3, .int (I j1), .int (((gA w 10 j1) ||| ((1 : Int32) <<< ((I j1) &&& 31))) &&& x2)], [.int (1 : Int32)], hp E w)) hM_125 1 rfl ?_
  exact Ev.fin hM_125 rfl rfl
theorem p125_16_b {E : Nat × (Nat → Int32)} {w : Wd} {d : Nat} {x1 x2 x3 x4 : Int32} {u5 : Value} {o : Ou} {j1 : Nat} {y4 : Int32} (c1 : x4 < (gF w 9)) (g1 : x4 = I j1) (b1 : j1 < 9) (c2 : ¬ (I j1) = x1) (c3 : ((x2 >>> ((I j1) &&& 31)) &&& (1 : Int32)) = (1 : Int32)) (c4 : ¬ (x3 &&& ((((gA w 10 j1) ||| ((1 : Int32) <<< ((I j1) &&& 31))) &&& x2) ^^^ (-1 : Int32))) = 0) (q4 : ((I j1) + (1 : Int32)) = y4) (e : Ev d 125 (16, [.ref 27, .int x1, .int x2, .int x3, .int y4, .int (((gA w 10 j1) ||| ((1 : Int32) <<< ((I j1) &&& 31))) &&& x2)], [], hp E w) o) : Ev d 125 (16, [.ref 27, .int x1, .int x2, .int x3, .int x4, u5], [], hp E w) o := by
  subst q4
  refine Ev.run (c' := (22, [.ref 27, .int x1, .int x2, .int x3, .int x4, u5], [.int (gF w 9), .int x4], hp E w)) hM_125 3 rfl ?_
  refine Ev.icF hM_125 rfl (cI_geF c1) ?_
  refine Ev.run (c' := (31, [.ref 27, .int x1, .int x2, .int x3, .int x4, u5], [.int x4, .ref 28], hp E w)) hM_125 3 rfl ?_
  subst g1
  refine Ev.iald hM_125 rfl (a := 28) rfl (inb_I b1 (by decide)) ?_
  rw [I_clamp (Nat.lt_of_lt_of_le b1 (by decide))]
  refine Ev.run (c' := (44, [.ref 27, .int x1, .int x2, .int x3, .int (I j1), .int (((gA w 10 j1) ||| ((1 : Int32) <<< ((I j1) &&& 31))) &&& x2)], [.int x1, .int (I j1)], hp E w)) hM_125 9 rfl ?_
  refine Ev.icF hM_125 rfl (cI_eqF c2) ?_
  refine Ev.run (c' := (54, [.ref 27, .int x1, .int x2, .int x3, .int (I j1), .int (((gA w 10 j1) ||| ((1 : Int32) <<< ((I j1) &&& 31))) &&& x2)], [.int (1 : Int32), .int ((x2 >>> ((I j1) &&& 31)) &&& (1 : Int32))], hp E w)) hM_125 6 rfl ?_
  refine Ev.icF hM_125 rfl (cI_neF c3) ?_
  refine Ev.run (c' := (63, [.ref 27, .int x1, .int x2, .int x3, .int (I j1), .int (((gA w 10 j1) ||| ((1 : Int32) <<< ((I j1) &&& 31))) &&& x2)], [.int (x3 &&& ((((gA w 10 j1) ||| ((1 : Int32) <<< ((I j1) &&& 31))) &&& x2) ^^^ (-1 : Int32)))], hp E w)) hM_125 5 rfl ?_
  refine Ev.ifT hM_125 rfl (cI_neT c4) ?_
  refine Ev.run (c' := (16, [.ref 27, .int x1, .int x2, .int x3, .int ((I j1) + (1 : Int32)), .int (((gA w 10 j1) ||| ((1 : Int32) <<< ((I j1) &&& 31))) &&& x2)], [], hp E w)) hM_125 2 rfl ?_
  exact e
theorem p125_16_c {E : Nat × (Nat → Int32)} {w : Wd} {d : Nat} {x1 x2 x3 x4 : Int32} {u5 : Value} {o : Ou} {j1 : Nat} {y4 : Int32} (c1 : x4 < (gF w 9)) (g1 : x4 = I j1) (b1 : j1 < 9) (c2 : ¬ (I j1) = x1) (c3 : ¬ ((x2 >>> ((I j1) &&& 31)) &&& (1 : Int32)) = (1 : Int32)) (q4 : ((I j1) + (1 : Int32)) = y4) (e : Ev d 125 (16, [.ref 27, .int x1, .int x2, .int x3, .int y4, .int (((gA w 10 j1) ||| ((1 : Int32) <<< ((I j1) &&& 31))) &&& x2)], [], hp E w) o) : Ev d 125 (16, [.ref 27, .int x1, .int x2, .int x3, .int x4, u5], [], hp E w) o := by
  subst q4
  refine Ev.run (c' := (22, [.ref 27, .int x1, .int x2, .int x3, .int x4, u5], [.int (gF w 9), .int x4], hp E w)) hM_125 3 rfl ?_
  refine Ev.icF hM_125 rfl (cI_geF c1) ?_
  refine Ev.run (c' := (31, [.ref 27, .int x1, .int x2, .int x3, .int x4, u5], [.int x4, .ref 28], hp E w)) hM_125 3 rfl ?_
  subst g1
  refine Ev.iald hM_125 rfl (a := 28) rfl (inb_I b1 (by decide)) ?_
  rw [I_clamp (Nat.lt_of_lt_of_le b1 (by decide))]
  refine Ev.run (c' := (44, [.ref 27, .int x1, .int x2, .int x3, .int (I j1), .int (((gA w 10 j1) ||| ((1 : Int32) <<< ((I j1) &&& 31))) &&& x2)], [.int x1, .int (I j1)], hp E w)) hM_125 9 rfl ?_
  refine Ev.icF hM_125 rfl (cI_eqF c2) ?_
  refine Ev.run (c' := (54, [.ref 27, .int x1, .int x2, .int x3, .int (I j1), .int (((gA w 10 j1) ||| ((1 : Int32) <<< ((I j1) &&& 31))) &&& x2)], [.int (1 : Int32), .int ((x2 >>> ((I j1) &&& 31)) &&& (1 : Int32))], hp E w)) hM_125 6 rfl ?_
  refine Ev.icT hM_125 rfl (cI_neT c3) ?_
  refine Ev.run (c' := (16, [.ref 27, .int x1, .int x2, .int x3, .int ((I j1) + (1 : Int32)), .int (((gA w 10 j1) ||| ((1 : Int32) <<< ((I j1) &&& 31))) &&& x2)], [], hp E w)) hM_125 2 rfl ?_
  exact e
theorem p125_16_d {E : Nat × (Nat → Int32)} {w : Wd} {d : Nat} {x1 x2 x3 x4 : Int32} {u5 : Value} {o : Ou} {j1 : Nat} {y4 : Int32} (c1 : x4 < (gF w 9)) (g1 : x4 = I j1) (b1 : j1 < 9) (c2 : (I j1) = x1) (q4 : ((I j1) + (1 : Int32)) = y4) (e : Ev d 125 (16, [.ref 27, .int x1, .int x2, .int x3, .int y4, .int (((gA w 10 j1) ||| ((1 : Int32) <<< ((I j1) &&& 31))) &&& x2)], [], hp E w) o) : Ev d 125 (16, [.ref 27, .int x1, .int x2, .int x3, .int x4, u5], [], hp E w) o := by
  subst q4
  refine Ev.run (c' := (22, [.ref 27, .int x1, .int x2, .int x3, .int x4, u5], [.int (gF w 9), .int x4], hp E w)) hM_125 3 rfl ?_
  refine Ev.icF hM_125 rfl (cI_geF c1) ?_
  refine Ev.run (c' := (31, [.ref 27, .int x1, .int x2, .int x3, .int x4, u5], [.int x4, .ref 28], hp E w)) hM_125 3 rfl ?_
  subst g1
  refine Ev.iald hM_125 rfl (a := 28) rfl (inb_I b1 (by decide)) ?_
  rw [I_clamp (Nat.lt_of_lt_of_le b1 (by decide))]
  refine Ev.run (c' := (44, [.ref 27, .int x1, .int x2, .int x3, .int (I j1), .int (((gA w 10 j1) ||| ((1 : Int32) <<< ((I j1) &&& 31))) &&& x2)], [.int x1, .int (I j1)], hp E w)) hM_125 9 rfl ?_
  refine Ev.icT hM_125 rfl (cI_eqT c2) ?_
  refine Ev.run (c' := (16, [.ref 27, .int x1, .int x2, .int x3, .int ((I j1) + (1 : Int32)), .int (((gA w 10 j1) ||| ((1 : Int32) <<< ((I j1) &&& 31))) &&& x2)], [], hp E w)) hM_125 2 rfl ?_
  exact e
theorem p125_16_e {E : Nat × (Nat → Int32)} {w : Wd} {d : Nat} {x1 x2 x3 x4 : Int32} {u5 : Value}  (c1 : ¬ x4 < (gF w 9)) : Ev d 125 (16, [.ref 27, .int x1, .int x2, .int x3, .int x4, u5], [], hp E w) (.inl (some (.int (0 : Int32))), hp E w) := by
  refine Ev.run (c' := (22, [.ref 27, .int x1, .int x2, .int x3, .int x4, u5], [.int (gF w 9), .int x4], hp E w)) hM_125 3 rfl ?_
  refine Ev.icT hM_125 rfl (cI_geT c1) ?_
  refine Ev.run (c' := (75, [.ref 27, .int x1, .int x2, .int x3, .int x4, u5], [.int (0 : Int32)], hp E w)) hM_125 1 rfl ?_
  exact Ev.fin hM_125 rfl rfl
theorem hM_126 : mAt 126 = some km_X8_fallsApart := rfl
theorem p126_e_a {E : Nat × (Nat → Int32)} {w : Wd} {d : Nat} {o : Ou} {w1 : Wd} {v1 : Int32} (hd : 1 ≤ d) (h1 : Ev (d - 1) 99 (ent0 99 [.ref 27] (hp E (sF 8 (0 : Int32) w))) (.inl (some (.int v1)), hp E w1)) (e : Ev d 126 (12, [.ref 27, .int v1, .int (1 : Int32), jk], [], hp E w1) o) : Ev d 126 (ent0 126 [.ref 27] (hp E w)) o := by
  refine Ev.run (c' := (6, [.ref 27, jk, jk, jk], [.ref 27], hp E (sF 8 (0 : Int32) w))) hM_126 4 rfl ?_
  refine Ev.callR hd hM_126 rfl (y := 99) (as := [.ref 27]) (rest := []) rfl (Nat.le_of_ble_eq_true rfl) h1 ?_
  refine Ev.run (c' := (12, [.ref 27, .int v1, .int (1 : Int32), jk], [], hp E w1)) hM_126 3 rfl ?_
  exact e
theorem p126_12_a {E : Nat × (Nat → Int32)} {w : Wd} {d : Nat} {x1 x2 : Int32} {u3 : Value} {o : Ou} {y3 : Int32} (c1 : ¬ x2 = 0) (q3 : ((gF w 9) - (1 : Int32)) = y3) (e : Ev d 126 (25, [.ref 27, .int x1, .int (0 : Int32), .int y3], [], hp E w) o) : Ev d 126 (12, [.ref 27, .int x1, .int x2, u3], [], hp E w) o := by
  subst q3
  refine Ev.run (c' := (13, [.ref 27, .int x1, .int x2, u3], [.int x2], hp E w)) hM_126 1 rfl ?_
  refine Ev.ifF hM_126 rfl (cI_eqF c1) ?_
  refine Ev.run (c' := (25, [.ref 27, .int x1, .int (0 : Int32), .int ((gF w 9) - (1 : Int32))], [], hp E w)) hM_126 7 rfl ?_
  exact e
theorem p126_12_b {E : Nat × (Nat → Int32)} {w : Wd} {d : Nat} {x1 x2 : Int32} {u3 : Value} {w1 : Wd} {v1 : Int32} (hd : 1 ≤ d) (c1 : x2 = 0) (h1 : Ev (d - 1) 100 (ent0 100 [.int x1] (hp E w)) (.inl (some (.int v1)), hp E w1)) (c2 : v1 = (1 : Int32)) : Ev d 126 (12, [.ref 27, .int x1, .int x2, u3], [], hp E w) (.inl (some (.int (1 : Int32))), hp E w1) := by
  refine Ev.run (c' := (13, [.ref 27, .int x1, .int x2, u3], [.int x2], hp E w)) hM_126 1 rfl ?_
  refine Ev.ifT hM_126 rfl (cI_eqT c1) ?_
  refine Ev.run (c' := (67, [.ref 27, .int x1, .int x2, u3], [.int x1], hp E w)) hM_126 1 rfl ?_
  refine Ev.callR hd hM_126 rfl (y := 100) (as := [.int x1]) (rest := []) rfl (Nat.le_of_ble_eq_true rfl) h1 ?_
  refine Ev.run (c' := (71, [.ref 27, .int x1, .int x2, u3], [.int (1 : Int32), .int v1], hp E w1)) hM_126 1 rfl ?_
  refine Ev.icF hM_126 rfl (cI_neF c2) ?_
  refine Ev.run (c' := (79, [.ref 27, .int x1, .int x2, u3], [.int (1 : Int32)], hp E w1)) hM_126 2 rfl ?_
  exact Ev.fin hM_126 rfl rfl
theorem p126_12_c {E : Nat × (Nat → Int32)} {w : Wd} {d : Nat} {x1 x2 : Int32} {u3 : Value} {w1 : Wd} {v1 : Int32} (hd : 1 ≤ d) (c1 : x2 = 0) (h1 : Ev (d - 1) 100 (ent0 100 [.int x1] (hp E w)) (.inl (some (.int v1)), hp E w1)) (c2 : ¬ v1 = (1 : Int32)) : Ev d 126 (12, [.ref 27, .int x1, .int x2, u3], [], hp E w) (.inl (some (.int (0 : Int32))), hp E w1) := by
  refine Ev.run (c' := (13, [.ref 27, .int x1, .int x2, u3], [.int x2], hp E w)) hM_126 1 rfl ?_
  refine Ev.ifT hM_126 rfl (cI_eqT c1) ?_
  refine Ev.run (c' := (67, [.ref 27, .int x1, .int x2, u3], [.int x1], hp E w)) hM_126 1 rfl ?_
  refine Ev.callR hd hM_126 rfl (y := 100) (as := [.int x1]) (rest := []) rfl (Nat.le_of_ble_eq_true rfl) h1 ?_
  refine Ev.run (c' := (71, [.ref 27, .int x1, .int x2, u3], [.int (1 : Int32), .int v1], hp E w1)) hM_126 1 rfl ?_
  refine Ev.icT hM_126 rfl (cI_neT c2) ?_
  refine Ev.run (c' := (79, [.ref 27, .int x1, .int x2, u3], [.int (0 : Int32)], hp E w1)) hM_126 1 rfl ?_
  exact Ev.fin hM_126 rfl rfl
theorem p126_25_a {E : Nat × (Nat → Int32)} {w : Wd} {d : Nat} {x1 x2 x3 : Int32} {o : Ou} {w1 : Wd} {v1 : Int32} {y1 : Int32} {y3 : Int32} (hd : 1 ≤ d) (c1 : ¬ x3 < 0) (c2 : ((x1 >>> (x3 &&& 31)) &&& (1 : Int32)) = (1 : Int32)) (h1 : Ev (d - 1) 125 (ent0 125 [.ref 27, .int x3, .int x1] (hp E w)) (.inl (some (.int v1)), hp E w1)) (c3 : ¬ v1 = 0) (q1 : (x1 &&& (((1 : Int32) <<< (x3 &&& 31)) ^^^ (-1 : Int32))) = y1) (q3 : (x3 + (-1 : Int32)) = y3) (e : Ev d 126 (25, [.ref 27, .int y1, .int (1 : Int32), .int y3], [], hp E w1) o) : Ev d 126 (25, [.ref 27, .int x1, .int x2, .int x3], [], hp E w) o := by
  subst q3
  subst q1
  refine Ev.run (c' := (26, [.ref 27, .int x1, .int x2, .int x3], [.int x3], hp E w)) hM_126 1 rfl ?_
  refine Ev.ifF hM_126 rfl (cI_ltF c1) ?_
  refine Ev.run (c' := (35, [.ref 27, .int x1, .int x2, .int x3], [.int (1 : Int32), .int ((x1 >>> (x3 &&& 31)) &&& (1 : Int32))], hp E w)) hM_126 6 rfl ?_
  refine Ev.icF hM_126 rfl (cI_neF c2) ?_
  refine Ev.run (c' := (41, [.ref 27, .int x1, .int x2, .int x3], [.int x1, .int x3, .ref 27], hp E w)) hM_126 3 rfl ?_
  refine Ev.callR hd hM_126 rfl (y := 125) (as := [.ref 27, .int x3, .int x1]) (rest := []) rfl (Nat.le_of_ble_eq_true rfl) h1 ?_
  refine Ev.run (c' := (44, [.ref 27, .int x1, .int x2, .int x3], [.int v1], hp E w1)) hM_126 0 rfl ?_
  refine Ev.ifF hM_126 rfl (cI_eqF c3) ?_
  refine Ev.run (c' := (25, [.ref 27, .int (x1 &&& (((1 : Int32) <<< (x3 &&& 31)) ^^^ (-1 : Int32))), .int (1 : Int32), .int (x3 + (-1 : Int32))], [], hp E w1)) hM_126 12 rfl ?_
  exact e
theorem p126_25_b {E : Nat × (Nat → Int32)} {w : Wd} {d : Nat} {x1 x2 x3 : Int32} {o : Ou} {w1 : Wd} {v1 : Int32} {y3 : Int32} (hd : 1 ≤ d) (c1 : ¬ x3 < 0) (c2 : ((x1 >>> (x3 &&& 31)) &&& (1 : Int32)) = (1 : Int32)) (h1 : Ev (d - 1) 125 (ent0 125 [.ref 27, .int x3, .int x1] (hp E w)) (.inl (some (.int v1)), hp E w1)) (c3 : v1 = 0) (q3 : (x3 + (-1 : Int32)) = y3) (e : Ev d 126 (25, [.ref 27, .int x1, .int x2, .int y3], [], hp E w1) o) : Ev d 126 (25, [.ref 27, .int x1, .int x2, .int x3], [], hp E w) o := by
  subst q3
  refine Ev.run (c' := (26, [.ref 27, .int x1, .int x2, .int x3], [.int x3], hp E w)) hM_126 1 rfl ?_
  refine Ev.ifF hM_126 rfl (cI_ltF c1) ?_
  refine Ev.run (c' := (35, [.ref 27, .int x1, .int x2, .int x3], [.int (1 : Int32), .int ((x1 >>> (x3 &&& 31)) &&& (1 : Int32))], hp E w)) hM_126 6 rfl ?_
  refine Ev.icF hM_126 rfl (cI_neF c2) ?_
  refine Ev.run (c' := (41, [.ref 27, .int x1, .int x2, .int x3], [.int x1, .int x3, .ref 27], hp E w)) hM_126 3 rfl ?_
  refine Ev.callR hd hM_126 rfl (y := 125) (as := [.ref 27, .int x3, .int x1]) (rest := []) rfl (Nat.le_of_ble_eq_true rfl) h1 ?_
  refine Ev.run (c' := (44, [.ref 27, .int x1, .int x2, .int x3], [.int v1], hp E w1)) hM_126 0 rfl ?_
  refine Ev.ifT hM_126 rfl (cI_eqT c3) ?_
  refine Ev.run (c' := (25, [.ref 27, .int x1, .int x2, .int (x3 + (-1 : Int32))], [], hp E w1)) hM_126 2 rfl ?_
  exact e
theorem p126_25_c {E : Nat × (Nat → Int32)} {w : Wd} {d : Nat} {x1 x2 x3 : Int32} {o : Ou} {y3 : Int32} (c1 : ¬ x3 < 0) (c2 : ¬ ((x1 >>> (x3 &&& 31)) &&& (1 : Int32)) = (1 : Int32)) (q3 : (x3 + (-1 : Int32)) = y3) (e : Ev d 126 (25, [.ref 27, .int x1, .int x2, .int y3], [], hp E w) o) : Ev d 126 (25, [.ref 27, .int x1, .int x2, .int x3], [], hp E w) o := by
  subst q3
  refine Ev.run (c' := (26, [.ref 27, .int x1, .int x2, .int x3], [.int x3], hp E w)) hM_126 1 rfl ?_
  refine Ev.ifF hM_126 rfl (cI_ltF c1) ?_
  refine Ev.run (c' := (35, [.ref 27, .int x1, .int x2, .int x3], [.int (1 : Int32), .int ((x1 >>> (x3 &&& 31)) &&& (1 : Int32))], hp E w)) hM_126 6 rfl ?_
  refine Ev.icT hM_126 rfl (cI_neT c2) ?_
  refine Ev.run (c' := (25, [.ref 27, .int x1, .int x2, .int (x3 + (-1 : Int32))], [], hp E w)) hM_126 2 rfl ?_
  exact e
theorem p126_25_d {E : Nat × (Nat → Int32)} {w : Wd} {d : Nat} {x1 x2 x3 : Int32} {o : Ou}  (c1 : x3 < 0) (e : Ev d 126 (12, [.ref 27, .int x1, .int x2, .int x3], [], hp E w) o) : Ev d 126 (25, [.ref 27, .int x1, .int x2, .int x3], [], hp E w) o := by
  refine Ev.run (c' := (26, [.ref 27, .int x1, .int x2, .int x3], [.int x3], hp E w)) hM_126 1 rfl ?_
  refine Ev.ifT hM_126 rfl (cI_ltT c1) ?_
  refine Ev.run (c' := (12, [.ref 27, .int x1, .int x2, .int x3], [], hp E w)) hM_126 1 rfl ?_
  exact e
theorem hM_128 : mAt 128 = some km_X8_shots := rfl
theorem p128_e_a {E : Nat × (Nat → Int32)} {w : Wd} {d : Nat} {x1 : Int32} {o : Ou}  (e : Ev d 128 (2, [.ref 27, .int x1, .int (0 : Int32), jk, jk, jk], [], hp E w) o) : Ev d 128 (ent0 128 [.ref 27, .int x1] (hp E w)) o := by
  refine Ev.run (c' := (2, [.ref 27, .int x1, .int (0 : Int32), jk, jk, jk], [], hp E w)) hM_128 2 rfl ?_
  exact e
theorem p128_2_a {E : Nat × (Nat → Int32)} {w : Wd} {d : Nat} {x1 x2 : Int32} {o : Ou} {j1 : Nat} {y2 : Int32} {w' : Wd} (c1 : x2 < (512 : Int32)) (g1 : x2 = I j1) (b1 : j1 < 512) (q2 : ((I j1) + (1 : Int32)) = y2) (qw : (sA 18 (upd (gA w 18) j1 (999 : Int32)) w) = w') (e : Ev d 128 (2, [.ref 27, .int x1, .int y2, jk, jk, jk], [], hp E w') o) : Ev d 128 (2, [.ref 27, .int x1, .int x2, jk, jk, jk], [], hp E w) o := by
  subst qw
  subst q2
  refine Ev.run (c' := (6, [.ref 27, .int x1, .int x2, jk, jk, jk], [.int (512 : Int32), .int x2], hp E w)) hM_128 2 rfl ?_
  refine Ev.icF hM_128 rfl (cI_geF c1) ?_
  refine Ev.run (c' := (17, [.ref 27, .int x1, .int x2, jk, jk, jk], [.int (999 : Int32), .int x2, .ref 36], hp E w)) hM_128 4 rfl ?_
  subst g1
  refine Ev.iast hM_128 rfl (a := 35) rfl (inb_I b1 (by decide)) (h' := hp E (sA 18 (upd (gA w 18) j1 (999 : Int32)) w)) (by rw [I_clamp (Nat.lt_of_lt_of_le b1 (by decide))]; rfl) ?_
  refine Ev.run (c' := (2, [.ref 27, .int x1, .int ((I j1) + (1 : Int32)), jk, jk, jk], [], hp E (sA 18 (upd (gA w 18) j1 (999 : Int32)) w))) hM_128 2 rfl ?_
  exact e
theorem p128_2_b {E : Nat × (Nat → Int32)} {w : Wd} {d : Nat} {x1 x2 : Int32} {o : Ou} {j1 : Nat} {j2 : Nat} {y1 : Int32} {w' : Wd} (c1 : ¬ x2 < (512 : Int32)) (g1 : x1 = I j1) (b1 : j1 < 512) (g2 : (0 : Int32) = I j2) (b2 : j2 < 512) (q1 : (I j1) = y1) (qw : (sA 17 (upd (gA (sA 18 (upd (gA w 18) j1 (I j2)) w) 17) j2 (I j1)) (sA 18 (upd (gA w 18) j1 (I j2)) w)) = w') (e : Ev d 128 (42, [.ref 27, .int y1, .int (1 : Int32), .int (0 : Int32), jk, jk], [], hp E w') o) : Ev d 128 (2, [.ref 27, .int x1, .int x2, jk, jk, jk], [], hp E w) o := by
  subst qw
  subst q1
  refine Ev.run (c' := (6, [.ref 27, .int x1, .int x2, jk, jk, jk], [.int (512 : Int32), .int x2], hp E w)) hM_128 2 rfl ?_
  refine Ev.icT hM_128 rfl (cI_geT c1) ?_
  refine Ev.run (c' := (30, [.ref 27, .int x1, .int x2, jk, jk, jk], [.int (0 : Int32), .int x1, .ref 36], hp E w)) hM_128 4 rfl ?_
  subst g1
  refine Ev.iast hM_128 rfl (a := 35) rfl (inb_I b1 (by decide)) (h' := hp E (sA 18 (upd (gA w 18) j1 (0 : Int32)) w)) (by rw [I_clamp (Nat.lt_of_lt_of_le b1 (by decide))]; rfl) ?_
  refine Ev.run (c' := (37, [.ref 27, .int (I j1), .int x2, jk, jk, jk], [.int (I j1), .int (0 : Int32), .ref 35], hp E (sA 18 (upd (gA w 18) j1 (0 : Int32)) w))) hM_128 4 rfl ?_
  rw [g2]
  refine Ev.iast hM_128 rfl (a := 34) rfl (inb_I b2 (by decide)) (h' := hp E (sA 17 (upd (gA (sA 18 (upd (gA w 18) j1 (I j2)) w) 17) j2 (I j1)) (sA 18 (upd (gA w 18) j1 (I j2)) w))) (by rw [I_clamp (Nat.lt_of_lt_of_le b2 (by decide))]; rfl) ?_
  refine Ev.run (c' := (42, [.ref 27, .int (I j1), .int (1 : Int32), .int (0 : Int32), jk, jk], [], hp E (sA 17 (upd (gA (sA 18 (upd (gA w 18) j1 (I j2)) w) 17) j2 (I j1)) (sA 18 (upd (gA w 18) j1 (I j2)) w)))) hM_128 4 rfl ?_
  exact e
theorem p128_42_a {E : Nat × (Nat → Int32)} {w : Wd} {d : Nat} {x1 x2 x3 : Int32} {u4 u5 : Value} {o : Ou}  (c1 : x3 < x2) (e : Ev d 128 (50, [.ref 27, .int x1, .int x2, .int x3, .int (0 : Int32), u5], [], hp E w) o) : Ev d 128 (42, [.ref 27, .int x1, .int x2, .int x3, u4, u5], [], hp E w) o := by
  refine Ev.run (c' := (44, [.ref 27, .int x1, .int x2, .int x3, u4, u5], [.int x2, .int x3], hp E w)) hM_128 2 rfl ?_
  refine Ev.icF hM_128 rfl (cI_geF c1) ?_
  refine Ev.run (c' := (50, [.ref 27, .int x1, .int x2, .int x3, .int (0 : Int32), u5], [], hp E w)) hM_128 2 rfl ?_
  exact e
theorem p128_42_b {E : Nat × (Nat → Int32)} {w : Wd} {d : Nat} {x1 x2 x3 : Int32} {u4 u5 : Value} {j1 : Nat} {y : Int32} (c1 : ¬ x3 < x2) (g1 : (0 : Int32) = I j1) (b1 : j1 < 512) (q : (gA w 18 j1) = y) : Ev d 128 (42, [.ref 27, .int x1, .int x2, .int x3, u4, u5], [], hp E w) (.inl (some (.int y)), hp E w) := by
  subst q
  refine Ev.run (c' := (44, [.ref 27, .int x1, .int x2, .int x3, u4, u5], [.int x2, .int x3], hp E w)) hM_128 2 rfl ?_
  refine Ev.icT hM_128 rfl (cI_geT c1) ?_
  refine Ev.run (c' := (134, [.ref 27, .int x1, .int x2, .int x3, u4, u5], [.int (0 : Int32), .ref 36], hp E w)) hM_128 3 rfl ?_
  rw [g1]
  refine Ev.iald hM_128 rfl (a := 36) rfl (inb_I b1 (by decide)) ?_
  rw [I_clamp (Nat.lt_of_lt_of_le b1 (by decide))]
  refine Ev.run (c' := (135, [.ref 27, .int x1, .int x2, .int x3, u4, u5], [.int (gA w 18 j1)], hp E w)) hM_128 0 rfl ?_
  exact Ev.fin hM_128 rfl rfl
theorem p128_50_a {E : Nat × (Nat → Int32)} {w : Wd} {d : Nat} {x1 x2 x3 x4 : Int32} {u5 : Value} {o : Ou} {j1 : Nat} {z1 : Int32} {w1 : Wd} {v1 : Int32} {j2 : Nat} {j3 : Nat} {j4 : Nat} {y2 : Int32} {y3 : Int32} {y4 : Int32} {w' : Wd} (hd : 1 ≤ d) (c1 : x4 < (gF w 9)) (g1 : x3 = I j1) (b1 : j1 < 512) (a1 : (gA w 17 j1) = z1) (h1 : Ev (d - 1) 108 (ent0 108 [.ref 27, .int z1, .int x4] (hp E w)) (.inl (some (.int v1)), hp E w1)) (g2 : v1 = I j2) (b2 : j2 < 512) (c2 : (gA w1 18 j2) = (999 : Int32)) (g3 : (gA w1 17 j1) = I j3) (b3 : j3 < 512) (g4 : x2 = I j4) (b4 : j4 < 512) (q2 : ((I j4) + (1 : Int32)) = y2) (q3 : (I j1) = y3) (q4 : (x4 + (1 : Int32)) = y4) (qw : (sA 17 (upd (gA (sA 18 (upd (gA w1 18) j2 ((gA w1 18 j3) + (1 : Int32))) w1) 17) j4 (I j2)) (sA 18 (upd (gA w1 18) j2 ((gA w1 18 j3) + (1 : Int32))) w1)) = w') (e : Ev d 128 (50, [.ref 27, .int x1, .int y2, .int y3, .int y4, .int (I j2)], [], hp E w') o) : Ev d 128 (50, [.ref 27, .int x1, .int x2, .int x3, .int x4, u5], [], hp E w) o := by
  subst qw
  subst q4
  subst q3
  subst q2
  refine Ev.run (c' := (56, [.ref 27, .int x1, .int x2, .int x3, .int x4, u5], [.int (gF w 9), .int x4], hp E w)) hM_128 3 rfl ?_
  refine Ev.icF hM_128 rfl (cI_geF c1) ?_
  refine Ev.run (c' := (65, [.ref 27, .int x1, .int x2, .int x3, .int x4, u5], [.int x3, .ref 35, .ref 27], hp E w)) hM_128 4 rfl ?_
  subst g1
  refine Ev.iald hM_128 rfl (a := 35) rfl (inb_I b1 (by decide)) ?_
  rw [I_clamp (Nat.lt_of_lt_of_le b1 (by decide))]
  refine Ev.run (c' := (68, [.ref 27, .int x1, .int x2, .int (I j1), .int x4, u5], [.int x4, .int (gA w 17 j1), .ref 27], hp E w)) hM_128 1 rfl ?_
  rw [← a1] at h1
  refine Ev.callR hd hM_128 rfl (y := 108) (as := [.ref 27, .int (gA w 17 j1), .int x4]) (rest := []) rfl (Nat.le_of_ble_eq_true rfl) h1 ?_
  refine Ev.run (c' := (79, [.ref 27, .int x1, .int x2, .int (I j1), .int x4, .int v1], [.int v1, .ref 36], hp E w1)) hM_128 4 rfl ?_
  subst g2
  refine Ev.iald hM_128 rfl (a := 36) rfl (inb_I b2 (by decide)) ?_
  rw [I_clamp (Nat.lt_of_lt_of_le b2 (by decide))]
  refine Ev.run (c' := (83, [.ref 27, .int x1, .int x2, .int (I j1), .int x4, .int (I j2)], [.int (999 : Int32), .int (gA w1 18 j2)], hp E w1)) hM_128 1 rfl ?_
  refine Ev.icF hM_128 rfl (cI_neF c2) ?_
  refine Ev.run (c' := (101, [.ref 27, .int x1, .int x2, .int (I j1), .int x4, .int (I j2)], [.int (I j1), .ref 35, .ref 36, .int (I j2), .ref 36], hp E w1)) hM_128 8 rfl ?_
  refine Ev.iald hM_128 rfl (a := 35) rfl (inb_I b1 (by decide)) ?_
  rw [I_clamp (Nat.lt_of_lt_of_le b1 (by decide))]
  refine Ev.run (c' := (102, [.ref 27, .int x1, .int x2, .int (I j1), .int x4, .int (I j2)], [.int (gA w1 17 j1), .ref 36, .int (I j2), .ref 36], hp E w1)) hM_128 0 rfl ?_
  rw [g3]
  refine Ev.iald hM_128 rfl (a := 36) rfl (inb_I b3 (by decide)) ?_
  rw [I_clamp (Nat.lt_of_lt_of_le b3 (by decide))]
  refine Ev.run (c' := (105, [.ref 27, .int x1, .int x2, .int (I j1), .int x4, .int (I j2)], [.int ((gA w1 18 j3) + (1 : Int32)), .int (I j2), .ref 36], hp E w1)) hM_128 2 rfl ?_
  refine Ev.iast hM_128 rfl (a := 35) rfl (inb_I b2 (by decide)) (h' := hp E (sA 18 (upd (gA w1 18) j2 ((gA w1 18 j3) + (1 : Int32))) w1)) (by rw [I_clamp (Nat.lt_of_lt_of_le b2 (by decide))]; rfl) ?_
  refine Ev.run (c' := (113, [.ref 27, .int x1, .int x2, .int (I j1), .int x4, .int (I j2)], [.int (I j2), .int x2, .ref 35], hp E (sA 18 (upd (gA w1 18) j2 ((gA w1 18 j3) + (1 : Int32))) w1))) hM_128 4 rfl ?_
  subst g4
  refine Ev.iast hM_128 rfl (a := 34) rfl (inb_I b4 (by decide)) (h' := hp E (sA 17 (upd (gA (sA 18 (upd (gA w1 18) j2 ((gA w1 18 j3) + (1 : Int32))) w1) 17) j4 (I j2)) (sA 18 (upd (gA w1 18) j2 ((gA w1 18 j3) + (1 : Int32))) w1))) (by rw [I_clamp (Nat.lt_of_lt_of_le b4 (by decide))]; rfl) ?_
  refine Ev.run (c' := (50, [.ref 27, .int x1, .int ((I j4) + (1 : Int32)), .int (I j1), .int (x4 + (1 : Int32)), .int (I j2)], [], hp E (sA 17 (upd (gA (sA 18 (upd (gA w1 18) j2 ((gA w1 18 j3) + (1 : Int32))) w1) 17) j4 (I j2)) (sA 18 (upd (gA w1 18) j2 ((gA w1 18 j3) + (1 : Int32))) w1)))) hM_128 3 rfl ?_
  exact e
theorem p128_50_b {E : Nat × (Nat → Int32)} {w : Wd} {d : Nat} {x1 x2 x3 x4 : Int32} {u5 : Value} {o : Ou} {j1 : Nat} {z1 : Int32} {w1 : Wd} {v1 : Int32} {j2 : Nat} {y3 : Int32} {y4 : Int32} (hd : 1 ≤ d) (c1 : x4 < (gF w 9)) (g1 : x3 = I j1) (b1 : j1 < 512) (a1 : (gA w 17 j1) = z1) (h1 : Ev (d - 1) 108 (ent0 108 [.ref 27, .int z1, .int x4] (hp E w)) (.inl (some (.int v1)), hp E w1)) (g2 : v1 = I j2) (b2 : j2 < 512) (c2 : ¬ (gA w1 18 j2) = (999 : Int32)) (q3 : (I j1) = y3) (q4 : (x4 + (1 : Int32)) = y4) (e : Ev d 128 (50, [.ref 27, .int x1, .int x2, .int y3, .int y4, .int (I j2)], [], hp E w1) o) : Ev d 128 (50, [.ref 27, .int x1, .int x2, .int x3, .int x4, u5], [], hp E w) o := by
  subst q4
  subst q3
  refine Ev.run (c' := (56, [.ref 27, .int x1, .int x2, .int x3, .int x4, u5], [.int (gF w 9), .int x4], hp E w)) hM_128 3 rfl ?_
  refine Ev.icF hM_128 rfl (cI_geF c1) ?_
  refine Ev.run (c' := (65, [.ref 27, .int x1, .int x2, .int x3, .int x4, u5], [.int x3, .ref 35, .ref 27], hp E w)) hM_128 4 rfl ?_
  subst g1
  refine Ev.iald hM_128 rfl (a := 35) rfl (inb_I b1 (by decide)) ?_
  rw [I_clamp (Nat.lt_of_lt_of_le b1 (by decide))]
  refine Ev.run (c' := (68, [.ref 27, .int x1, .int x2, .int (I j1), .int x4, u5], [.int x4, .int (gA w 17 j1), .ref 27], hp E w)) hM_128 1 rfl ?_
  rw [← a1] at h1
  refine Ev.callR hd hM_128 rfl (y := 108) (as := [.ref 27, .int (gA w 17 j1), .int x4]) (rest := []) rfl (Nat.le_of_ble_eq_true rfl) h1 ?_
  refine Ev.run (c' := (79, [.ref 27, .int x1, .int x2, .int (I j1), .int x4, .int v1], [.int v1, .ref 36], hp E w1)) hM_128 4 rfl ?_
  subst g2
  refine Ev.iald hM_128 rfl (a := 36) rfl (inb_I b2 (by decide)) ?_
  rw [I_clamp (Nat.lt_of_lt_of_le b2 (by decide))]
  refine Ev.run (c' := (83, [.ref 27, .int x1, .int x2, .int (I j1), .int x4, .int (I j2)], [.int (999 : Int32), .int (gA w1 18 j2)], hp E w1)) hM_128 1 rfl ?_
  refine Ev.icT hM_128 rfl (cI_neT c2) ?_
  refine Ev.run (c' := (50, [.ref 27, .int x1, .int x2, .int (I j1), .int (x4 + (1 : Int32)), .int (I j2)], [], hp E w1)) hM_128 2 rfl ?_
  exact e
theorem p128_50_c {E : Nat × (Nat → Int32)} {w : Wd} {d : Nat} {x1 x2 x3 x4 : Int32} {u5 : Value} {o : Ou} {y3 : Int32} (c1 : ¬ x4 < (gF w 9)) (q3 : (x3 + (1 : Int32)) = y3) (e : Ev d 128 (42, [.ref 27, .int x1, .int x2, .int y3, .int x4, u5], [], hp E w) o) : Ev d 128 (50, [.ref 27, .int x1, .int x2, .int x3, .int x4, u5], [], hp E w) o := by
  subst q3
  refine Ev.run (c' := (56, [.ref 27, .int x1, .int x2, .int x3, .int x4, u5], [.int (gF w 9), .int x4], hp E w)) hM_128 3 rfl ?_
  refine Ev.icT hM_128 rfl (cI_geT c1) ?_
  refine Ev.run (c' := (42, [.ref 27, .int x1, .int x2, .int (x3 + (1 : Int32)), .int x4, u5], [], hp E w)) hM_128 2 rfl ?_
  exact e
theorem hM_129 : mAt 129 = some km_X8_hunt := rfl
theorem p129_e_a {E : Nat × (Nat → Int32)} {w : Wd} {d : Nat} {z1 : Int32} {w1 : Wd} {v1 : Int32} (hd : 1 ≤ d) (a1 : (gF (sF 8 (0 : Int32) w) 10) = z1) (h1 : Ev (d - 1) 128 (ent0 128 [.ref 27, .int z1] (hp E (sF 8 (0 : Int32) w))) (.inl (some (.int v1)), hp E w1)) (c1 : v1 = (999 : Int32)) : Ev d 129 (ent0 129 [.ref 27] (hp E w)) (.inl (some (.int (-1 : Int32))), hp E w1) := by
  refine Ev.run (c' := (10, [.ref 27, jk], [.int (gF (sF 8 (0 : Int32) w) 10), .ref 27], hp E (sF 8 (0 : Int32) w))) hM_129 6 rfl ?_
  rw [← a1] at h1
  refine Ev.callR hd hM_129 rfl (y := 128) (as := [.ref 27, .int (gF (sF 8 (0 : Int32) w) 10)]) (rest := []) rfl (Nat.le_of_ble_eq_true rfl) h1 ?_
  refine Ev.run (c' := (18, [.ref 27, .int v1], [.int (999 : Int32), .int v1], hp E w1)) hM_129 3 rfl ?_
  refine Ev.icF hM_129 rfl (cI_neF c1) ?_
  refine Ev.run (c' := (26, [.ref 27, .int v1], [.int (-1 : Int32)], hp E w1)) hM_129 2 rfl ?_
  exact Ev.fin hM_129 rfl rfl
theorem p129_e_b {E : Nat × (Nat → Int32)} {w : Wd} {d : Nat} {z1 : Int32} {w1 : Wd} {v1 : Int32} (hd : 1 ≤ d) (a1 : (gF (sF 8 (0 : Int32) w) 10) = z1) (h1 : Ev (d - 1) 128 (ent0 128 [.ref 27, .int z1] (hp E (sF 8 (0 : Int32) w))) (.inl (some (.int v1)), hp E w1)) (c1 : ¬ v1 = (999 : Int32)) : Ev d 129 (ent0 129 [.ref 27] (hp E w)) (.inl (some (.int v1)), hp E w1) := by
  refine Ev.run (c' := (10, [.ref 27, jk], [.int (gF (sF 8 (0 : Int32) w) 10), .ref 27], hp E (sF 8 (0 : Int32) w))) hM_129 6 rfl ?_
  rw [← a1] at h1
  refine Ev.callR hd hM_129 rfl (y := 128) (as := [.ref 27, .int (gF (sF 8 (0 : Int32) w) 10)]) (rest := []) rfl (Nat.le_of_ble_eq_true rfl) h1 ?_
  refine Ev.run (c' := (18, [.ref 27, .int v1], [.int (999 : Int32), .int v1], hp E w1)) hM_129 3 rfl ?_
  refine Ev.icT hM_129 rfl (cI_neT c1) ?_
  refine Ev.run (c' := (26, [.ref 27, .int v1], [.int v1], hp E w1)) hM_129 1 rfl ?_
  exact Ev.fin hM_129 rfl rfl
theorem hM_130 : mAt 130 = some km_X8_huntAnew := rfl
theorem p130_e_a {E : Nat × (Nat → Int32)} {w : Wd} {d : Nat} {x1 : Int32} {w1 : Wd} {v1 : Int32} (hd : 1 ≤ d) (c1 : ¬ x1 < 0) (c2 : (4 : Int32) < x1) (h1 : Ev (d - 1) 97 (ent0 97 [.ref 27, .int (1 : Int32)] (hp E (sF 8 (0 : Int32) w))) (.inl (some (.int v1)), hp E w1)) : Ev d 130 (ent0 130 [.ref 27, .int x1] (hp E w)) (.inl (some (.int v1)), hp E w1) := by
  refine Ev.run (c' := (6, [.ref 27, .int x1, jk], [.int x1], hp E (sF 8 (0 : Int32) w))) hM_130 4 rfl ?_
  refine Ev.ifF hM_130 rfl (cI_ltF c1) ?_
  refine Ev.run (c' := (11, [.ref 27, .int x1, jk], [.int (4 : Int32), .int x1], hp E (sF 8 (0 : Int32) w))) hM_130 2 rfl ?_
  refine Ev.icF hM_130 rfl (cI_leF c2) ?_
  refine Ev.run (c' := (16, [.ref 27, .int x1, jk], [.int (1 : Int32), .ref 27], hp E (sF 8 (0 : Int32) w))) hM_130 2 rfl ?_
  refine Ev.callR hd hM_130 rfl (y := 97) (as := [.ref 27, .int (1 : Int32)]) (rest := []) rfl (Nat.le_of_ble_eq_true rfl) h1 ?_
  refine Ev.run (c' := (19, [.ref 27, .int x1, jk], [.int v1], hp E w1)) hM_130 0 rfl ?_
  exact Ev.fin hM_130 rfl rfl
theorem p130_e_b {E : Nat × (Nat → Int32)} {w : Wd} {d : Nat} {x1 : Int32} {z1 : Int32} {w1 : Wd} {v1 : Int32} (hd : 1 ≤ d) (c1 : ¬ x1 < 0) (c2 : ¬ (4 : Int32) < x1) (a1 : (gF (sF 8 (0 : Int32) w) 10) = z1) (h1 : Ev (d - 1) 128 (ent0 128 [.ref 27, .int z1] (hp E (sF 8 (0 : Int32) w))) (.inl (some (.int v1)), hp E w1)) (c3 : x1 < v1) : Ev d 130 (ent0 130 [.ref 27, .int x1] (hp E w)) (.inl (some (.int (-1 : Int32))), hp E w1) := by
  refine Ev.run (c' := (6, [.ref 27, .int x1, jk], [.int x1], hp E (sF 8 (0 : Int32) w))) hM_130 4 rfl ?_
  refine Ev.ifF hM_130 rfl (cI_ltF c1) ?_
  refine Ev.run (c' := (11, [.ref 27, .int x1, jk], [.int (4 : Int32), .int x1], hp E (sF 8 (0 : Int32) w))) hM_130 2 rfl ?_
  refine Ev.icT hM_130 rfl (cI_leT c2) ?_
  refine Ev.run (c' := (25, [.ref 27, .int x1, jk], [.int (gF (sF 8 (0 : Int32) w) 10), .ref 27], hp E (sF 8 (0 : Int32) w))) hM_130 3 rfl ?_
  rw [← a1] at h1
  refine Ev.callR hd hM_130 rfl (y := 128) (as := [.ref 27, .int (gF (sF 8 (0 : Int32) w) 10)]) (rest := []) rfl (Nat.le_of_ble_eq_true rfl) h1 ?_
  refine Ev.run (c' := (31, [.ref 27, .int x1, .int v1], [.int x1, .int v1], hp E w1)) hM_130 3 rfl ?_
  refine Ev.icF hM_130 rfl (cI_leF c3) ?_
  refine Ev.run (c' := (39, [.ref 27, .int x1, .int v1], [.int (-1 : Int32)], hp E w1)) hM_130 2 rfl ?_
  exact Ev.fin hM_130 rfl rfl
theorem p130_e_c {E : Nat × (Nat → Int32)} {w : Wd} {d : Nat} {x1 : Int32} {z1 : Int32} {w1 : Wd} {v1 : Int32} (hd : 1 ≤ d) (c1 : ¬ x1 < 0) (c2 : ¬ (4 : Int32) < x1) (a1 : (gF (sF 8 (0 : Int32) w) 10) = z1) (h1 : Ev (d - 1) 128 (ent0 128 [.ref 27, .int z1] (hp E (sF 8 (0 : Int32) w))) (.inl (some (.int v1)), hp E w1)) (c3 : ¬ x1 < v1) : Ev d 130 (ent0 130 [.ref 27, .int x1] (hp E w)) (.inl (some (.int v1)), hp E w1) := by
  refine Ev.run (c' := (6, [.ref 27, .int x1, jk], [.int x1], hp E (sF 8 (0 : Int32) w))) hM_130 4 rfl ?_
  refine Ev.ifF hM_130 rfl (cI_ltF c1) ?_
  refine Ev.run (c' := (11, [.ref 27, .int x1, jk], [.int (4 : Int32), .int x1], hp E (sF 8 (0 : Int32) w))) hM_130 2 rfl ?_
  refine Ev.icT hM_130 rfl (cI_leT c2) ?_
  refine Ev.run (c' := (25, [.ref 27, .int x1, jk], [.int (gF (sF 8 (0 : Int32) w) 10), .ref 27], hp E (sF 8 (0 : Int32) w))) hM_130 3 rfl ?_
  rw [← a1] at h1
  refine Ev.callR hd hM_130 rfl (y := 128) (as := [.ref 27, .int (gF (sF 8 (0 : Int32) w) 10)]) (rest := []) rfl (Nat.le_of_ble_eq_true rfl) h1 ?_
  refine Ev.run (c' := (31, [.ref 27, .int x1, .int v1], [.int x1, .int v1], hp E w1)) hM_130 3 rfl ?_
  refine Ev.icT hM_130 rfl (cI_leT c3) ?_
  refine Ev.run (c' := (39, [.ref 27, .int x1, .int v1], [.int v1], hp E w1)) hM_130 1 rfl ?_
  exact Ev.fin hM_130 rfl rfl
theorem p130_e_d {E : Nat × (Nat → Int32)} {w : Wd} {d : Nat} {x1 : Int32} {w1 : Wd} {v1 : Int32} (hd : 1 ≤ d) (c1 : x1 < 0) (h1 : Ev (d - 1) 97 (ent0 97 [.ref 27, .int (1 : Int32)] (hp E (sF 8 (0 : Int32) w))) (.inl (some (.int v1)), hp E w1)) : Ev d 130 (ent0 130 [.ref 27, .int x1] (hp E w)) (.inl (some (.int v1)), hp E w1) := by
  refine Ev.run (c' := (6, [.ref 27, .int x1, jk], [.int x1], hp E (sF 8 (0 : Int32) w))) hM_130 4 rfl ?_
  refine Ev.ifT hM_130 rfl (cI_ltT c1) ?_
  refine Ev.run (c' := (16, [.ref 27, .int x1, jk], [.int (1 : Int32), .ref 27], hp E (sF 8 (0 : Int32) w))) hM_130 2 rfl ?_
  refine Ev.callR hd hM_130 rfl (y := 97) (as := [.ref 27, .int (1 : Int32)]) (rest := []) rfl (Nat.le_of_ble_eq_true rfl) h1 ?_
  refine Ev.run (c' := (19, [.ref 27, .int x1, jk], [.int v1], hp E w1)) hM_130 0 rfl ?_
  exact Ev.fin hM_130 rfl rfl
theorem hM_131 : mAt 131 = some km_X8_aim := rfl
theorem p131_e_a {E : Nat × (Nat → Int32)} {w : Wd} {d : Nat} {z1 : Int32} {w1 : Wd} {v1 : Int32} (hd : 1 ≤ d) (a1 : (gF (sF 8 (0 : Int32) w) 10) = z1) (h1 : Ev (d - 1) 128 (ent0 128 [.ref 27, .int z1] (hp E (sF 8 (0 : Int32) w))) (.inl (some (.int v1)), hp E w1)) (c1 : ¬ v1 = 0) (c2 : v1 = (999 : Int32)) : Ev d 131 (ent0 131 [.ref 27] (hp E w)) (.inl (some (.int (-1 : Int32))), hp E w1) := by
  refine Ev.run (c' := (10, [.ref 27, jk, jk], [.int (gF (sF 8 (0 : Int32) w) 10), .ref 27], hp E (sF 8 (0 : Int32) w))) hM_131 6 rfl ?_
  rw [← a1] at h1
  refine Ev.callR hd hM_131 rfl (y := 128) (as := [.ref 27, .int (gF (sF 8 (0 : Int32) w) 10)]) (rest := []) rfl (Nat.le_of_ble_eq_true rfl) h1 ?_
  refine Ev.run (c' := (15, [.ref 27, .int v1, jk], [.int v1], hp E w1)) hM_131 2 rfl ?_
  refine Ev.ifF hM_131 rfl (cI_eqF c1) ?_
  refine Ev.run (c' := (22, [.ref 27, .int v1, jk], [.int (999 : Int32), .int v1], hp E w1)) hM_131 2 rfl ?_
  refine Ev.icF hM_131 rfl (cI_neF c2) ?_
  refine Ev.run (c' := (26, [.ref 27, .int v1, jk], [.int (-1 : Int32)], hp E w1)) hM_131 1 rfl ?_
  exact Ev.fin hM_131 rfl rfl
theorem p131_e_b {E : Nat × (Nat → Int32)} {w : Wd} {d : Nat} {o : Ou} {z1 : Int32} {w1 : Wd} {v1 : Int32} (hd : 1 ≤ d) (a1 : (gF (sF 8 (0 : Int32) w) 10) = z1) (h1 : Ev (d - 1) 128 (ent0 128 [.ref 27, .int z1] (hp E (sF 8 (0 : Int32) w))) (.inl (some (.int v1)), hp E w1)) (c1 : ¬ v1 = 0) (c2 : ¬ v1 = (999 : Int32)) (e : Ev d 131 (29, [.ref 27, .int v1, .int (0 : Int32)], [], hp E w1) o) : Ev d 131 (ent0 131 [.ref 27] (hp E w)) o := by
  refine Ev.run (c' := (10, [.ref 27, jk, jk], [.int (gF (sF 8 (0 : Int32) w) 10), .ref 27], hp E (sF 8 (0 : Int32) w))) hM_131 6 rfl ?_
  rw [← a1] at h1
  refine Ev.callR hd hM_131 rfl (y := 128) (as := [.ref 27, .int (gF (sF 8 (0 : Int32) w) 10)]) (rest := []) rfl (Nat.le_of_ble_eq_true rfl) h1 ?_
  refine Ev.run (c' := (15, [.ref 27, .int v1, jk], [.int v1], hp E w1)) hM_131 2 rfl ?_
  refine Ev.ifF hM_131 rfl (cI_eqF c1) ?_
  refine Ev.run (c' := (22, [.ref 27, .int v1, jk], [.int (999 : Int32), .int v1], hp E w1)) hM_131 2 rfl ?_
  refine Ev.icT hM_131 rfl (cI_neT c2) ?_
  refine Ev.run (c' := (29, [.ref 27, .int v1, .int (0 : Int32)], [], hp E w1)) hM_131 2 rfl ?_
  exact e
theorem p131_e_c {E : Nat × (Nat → Int32)} {w : Wd} {d : Nat} {z1 : Int32} {w1 : Wd} {v1 : Int32} (hd : 1 ≤ d) (a1 : (gF (sF 8 (0 : Int32) w) 10) = z1) (h1 : Ev (d - 1) 128 (ent0 128 [.ref 27, .int z1] (hp E (sF 8 (0 : Int32) w))) (.inl (some (.int v1)), hp E w1)) (c1 : v1 = 0) : Ev d 131 (ent0 131 [.ref 27] (hp E w)) (.inl (some (.int (-1 : Int32))), hp E w1) := by
  refine Ev.run (c' := (10, [.ref 27, jk, jk], [.int (gF (sF 8 (0 : Int32) w) 10), .ref 27], hp E (sF 8 (0 : Int32) w))) hM_131 6 rfl ?_
  rw [← a1] at h1
  refine Ev.callR hd hM_131 rfl (y := 128) (as := [.ref 27, .int (gF (sF 8 (0 : Int32) w) 10)]) (rest := []) rfl (Nat.le_of_ble_eq_true rfl) h1 ?_
  refine Ev.run (c' := (15, [.ref 27, .int v1, jk], [.int v1], hp E w1)) hM_131 2 rfl ?_
  refine Ev.ifT hM_131 rfl (cI_eqT c1) ?_
  refine Ev.run (c' := (26, [.ref 27, .int v1, jk], [.int (-1 : Int32)], hp E w1)) hM_131 1 rfl ?_
  exact Ev.fin hM_131 rfl rfl
theorem p131_29_a {E : Nat × (Nat → Int32)} {w : Wd} {d : Nat} {x1 x2 : Int32} {z1 : Int32} {w1 : Wd} {v1 : Int32} {w2 : Wd} {v2 : Int32} (hd : 1 ≤ d) (c1 : x2 < (gF w 9)) (a1 : (gF w 10) = z1) (h1 : Ev (d - 1) 108 (ent0 108 [.ref 27, .int z1, .int x2] (hp E w)) (.inl (some (.int v1)), hp E w1)) (h2 : Ev (d - 1) 128 (ent0 128 [.ref 27, .int v1] (hp E w1)) (.inl (some (.int v2)), hp E w2)) (c2 : v2 = (x1 - (1 : Int32))) : Ev d 131 (29, [.ref 27, .int x1, .int x2], [], hp E w) (.inl (some (.int x2)), hp E w2) := by
  refine Ev.run (c' := (34, [.ref 27, .int x1, .int x2], [.int (gF w 9), .int x2], hp E w)) hM_131 3 rfl ?_
  refine Ev.icF hM_131 rfl (cI_geF c1) ?_
  refine Ev.run (c' := (44, [.ref 27, .int x1, .int x2], [.int x2, .int (gF w 10), .ref 27, .ref 27], hp E w)) hM_131 5 rfl ?_
  rw [← a1] at h1
  refine Ev.callR hd hM_131 rfl (y := 108) (as := [.ref 27, .int (gF w 10), .int x2]) (rest := [.ref 27]) rfl (Nat.le_of_ble_eq_true rfl) h1 ?_
  refine Ev.run (c' := (47, [.ref 27, .int x1, .int x2], [.int v1, .ref 27], hp E w1)) hM_131 0 rfl ?_
  refine Ev.callR hd hM_131 rfl (y := 128) (as := [.ref 27, .int v1]) (rest := []) rfl (Nat.le_of_ble_eq_true rfl) h2 ?_
  refine Ev.run (c' := (53, [.ref 27, .int x1, .int x2], [.int (x1 - (1 : Int32)), .int v2], hp E w2)) hM_131 3 rfl ?_
  refine Ev.icF hM_131 rfl (cI_neF c2) ?_
  refine Ev.run (c' := (57, [.ref 27, .int x1, .int x2], [.int x2], hp E w2)) hM_131 1 rfl ?_
  exact Ev.fin hM_131 rfl rfl
theorem p131_29_b {E : Nat × (Nat → Int32)} {w : Wd} {d : Nat} {x1 x2 : Int32} {o : Ou} {z1 : Int32} {w1 : Wd} {v1 : Int32} {w2 : Wd} {v2 : Int32} {y2 : Int32} (hd : 1 ≤ d) (c1 : x2 < (gF w 9)) (a1 : (gF w 10) = z1) (h1 : Ev (d - 1) 108 (ent0 108 [.ref 27, .int z1, .int x2] (hp E w)) (.inl (some (.int v1)), hp E w1)) (h2 : Ev (d - 1) 128 (ent0 128 [.ref 27, .int v1] (hp E w1)) (.inl (some (.int v2)), hp E w2)) (c2 : ¬ v2 = (x1 - (1 : Int32))) (q2 : (x2 + (1 : Int32)) = y2) (e : Ev d 131 (29, [.ref 27, .int x1, .int y2], [], hp E w2) o) : Ev d 131 (29, [.ref 27, .int x1, .int x2], [], hp E w) o := by
  subst q2
  refine Ev.run (c' := (34, [.ref 27, .int x1, .int x2], [.int (gF w 9), .int x2], hp E w)) hM_131 3 rfl ?_
  refine Ev.icF hM_131 rfl (cI_geF c1) ?_
  refine Ev.run (c' := (44, [.ref 27, .int x1, .int x2], [.int x2, .int (gF w 10), .ref 27, .ref 27], hp E w)) hM_131 5 rfl ?_
  rw [← a1] at h1
  refine Ev.callR hd hM_131 rfl (y := 108) (as := [.ref 27, .int (gF w 10), .int x2]) (rest := [.ref 27]) rfl (Nat.le_of_ble_eq_true rfl) h1 ?_
  refine Ev.run (c' := (47, [.ref 27, .int x1, .int x2], [.int v1, .ref 27], hp E w1)) hM_131 0 rfl ?_
  refine Ev.callR hd hM_131 rfl (y := 128) (as := [.ref 27, .int v1]) (rest := []) rfl (Nat.le_of_ble_eq_true rfl) h2 ?_
  refine Ev.run (c' := (53, [.ref 27, .int x1, .int x2], [.int (x1 - (1 : Int32)), .int v2], hp E w2)) hM_131 3 rfl ?_
  refine Ev.icT hM_131 rfl (cI_neT c2) ?_
  refine Ev.run (c' := (29, [.ref 27, .int x1, .int (x2 + (1 : Int32))], [], hp E w2)) hM_131 2 rfl ?_
  exact e
theorem p131_29_c {E : Nat × (Nat → Int32)} {w : Wd} {d : Nat} {x1 x2 : Int32}  (c1 : ¬ x2 < (gF w 9)) : Ev d 131 (29, [.ref 27, .int x1, .int x2], [], hp E w) (.inl (some (.int (-1 : Int32))), hp E w) := by
  refine Ev.run (c' := (34, [.ref 27, .int x1, .int x2], [.int (gF w 9), .int x2], hp E w)) hM_131 3 rfl ?_
  refine Ev.icT hM_131 rfl (cI_geT c1) ?_
  refine Ev.run (c' := (65, [.ref 27, .int x1, .int x2], [.int (-1 : Int32)], hp E w)) hM_131 1 rfl ?_
  exact Ev.fin hM_131 rfl rfl
theorem hM_132 : mAt 132 = some km_X8_round := rfl
theorem p132_e_a {E : Nat × (Nat → Int32)} {w : Wd} {d : Nat} {x1 : Int32} {o : Ou}  (e : Ev d 132 (4, [.ref 27, .int x1, .int x1, .int (0 : Int32), jk], [], hp E w) o) : Ev d 132 (ent0 132 [.ref 27, .int x1] (hp E w)) o := by
  refine Ev.run (c' := (4, [.ref 27, .int x1, .int x1, .int (0 : Int32), jk], [], hp E w)) hM_132 4 rfl ?_
  exact e
theorem p132_4_a {E : Nat × (Nat → Int32)} {w : Wd} {d : Nat} {x1 x2 x3 : Int32} {u4 : Value} {o : Ou} {j1 : Nat} {z1 : Int32} {w1 : Wd} {v1 : Int32} {y2 : Int32} {y3 : Int32} (hd : 1 ≤ d) (c1 : x3 < (gF w 9)) (g1 : x3 = I j1) (b1 : j1 < 9) (c2 : ((x1 >>> ((I j1) &&& 31)) &&& (1 : Int32)) = (1 : Int32)) (a1 : ((gA w 10 j1) &&& (x1 ^^^ (-1 : Int32))) = z1) (h1 : Ev (d - 1) 100 (ent0 100 [.int z1] (hp E w)) (.inl (some (.int v1)), hp E w1)) (c3 : v1 = (1 : Int32)) (q2 : (x2 ||| ((gA w 10 j1) &&& (x1 ^^^ (-1 : Int32)))) = y2) (q3 : ((I j1) + (1 : Int32)) = y3) (e : Ev d 132 (4, [.ref 27, .int x1, .int y2, .int y3, .int ((gA w 10 j1) &&& (x1 ^^^ (-1 : Int32)))], [], hp E w1) o) : Ev d 132 (4, [.ref 27, .int x1, .int x2, .int x3, u4], [], hp E w) o := by
  subst q3
  subst q2
  refine Ev.run (c' := (9, [.ref 27, .int x1, .int x2, .int x3, u4], [.int (gF w 9), .int x3], hp E w)) hM_132 3 rfl ?_
  refine Ev.icF hM_132 rfl (cI_geF c1) ?_
  refine Ev.run (c' := (17, [.ref 27, .int x1, .int x2, .int x3, u4], [.int x3, .ref 28], hp E w)) hM_132 3 rfl ?_
  subst g1
  refine Ev.iald hM_132 rfl (a := 28) rfl (inb_I b1 (by decide)) ?_
  rw [I_clamp (Nat.lt_of_lt_of_le b1 (by decide))]
  refine Ev.run (c' := (30, [.ref 27, .int x1, .int x2, .int (I j1), .int ((gA w 10 j1) &&& (x1 ^^^ (-1 : Int32)))], [.int (1 : Int32), .int ((x1 >>> ((I j1) &&& 31)) &&& (1 : Int32))], hp E w)) hM_132 11 rfl ?_
  refine Ev.icF hM_132 rfl (cI_neF c2) ?_
  refine Ev.run (c' := (35, [.ref 27, .int x1, .int x2, .int (I j1), .int ((gA w 10 j1) &&& (x1 ^^^ (-1 : Int32)))], [.int ((gA w 10 j1) &&& (x1 ^^^ (-1 : Int32)))], hp E w)) hM_132 1 rfl ?_
  rw [← a1] at h1
  refine Ev.callR hd hM_132 rfl (y := 100) (as := [.int ((gA w 10 j1) &&& (x1 ^^^ (-1 : Int32)))]) (rest := []) rfl (Nat.le_of_ble_eq_true rfl) h1 ?_
  refine Ev.run (c' := (39, [.ref 27, .int x1, .int x2, .int (I j1), .int ((gA w 10 j1) &&& (x1 ^^^ (-1 : Int32)))], [.int (1 : Int32), .int v1], hp E w1)) hM_132 1 rfl ?_
  refine Ev.icF hM_132 rfl (cI_neF c3) ?_
  refine Ev.run (c' := (4, [.ref 27, .int x1, .int (x2 ||| ((gA w 10 j1) &&& (x1 ^^^ (-1 : Int32)))), .int ((I j1) + (1 : Int32)), .int ((gA w 10 j1) &&& (x1 ^^^ (-1 : Int32)))], [], hp E w1)) hM_132 6 rfl ?_
  exact e
theorem p132_4_b {E : Nat × (Nat → Int32)} {w : Wd} {d : Nat} {x1 x2 x3 : Int32} {u4 : Value} {o : Ou} {j1 : Nat} {z1 : Int32} {w1 : Wd} {v1 : Int32} {y3 : Int32} (hd : 1 ≤ d) (c1 : x3 < (gF w 9)) (g1 : x3 = I j1) (b1 : j1 < 9) (c2 : ((x1 >>> ((I j1) &&& 31)) &&& (1 : Int32)) = (1 : Int32)) (a1 : ((gA w 10 j1) &&& (x1 ^^^ (-1 : Int32))) = z1) (h1 : Ev (d - 1) 100 (ent0 100 [.int z1] (hp E w)) (.inl (some (.int v1)), hp E w1)) (c3 : ¬ v1 = (1 : Int32)) (q3 : ((I j1) + (1 : Int32)) = y3) (e : Ev d 132 (4, [.ref 27, .int x1, .int x2, .int y3, .int ((gA w 10 j1) &&& (x1 ^^^ (-1 : Int32)))], [], hp E w1) o) : Ev d 132 (4, [.ref 27, .int x1, .int x2, .int x3, u4], [], hp E w) o := by
  subst q3
  refine Ev.run (c' := (9, [.ref 27, .int x1, .int x2, .int x3, u4], [.int (gF w 9), .int x3], hp E w)) hM_132 3 rfl ?_
  refine Ev.icF hM_132 rfl (cI_geF c1) ?_
  refine Ev.run (c' := (17, [.ref 27, .int x1, .int x2, .int x3, u4], [.int x3, .ref 28], hp E w)) hM_132 3 rfl ?_
  subst g1
  refine Ev.iald hM_132 rfl (a := 28) rfl (inb_I b1 (by decide)) ?_
  rw [I_clamp (Nat.lt_of_lt_of_le b1 (by decide))]
  refine Ev.run (c' := (30, [.ref 27, .int x1, .int x2, .int (I j1), .int ((gA w 10 j1) &&& (x1 ^^^ (-1 : Int32)))], [.int (1 : Int32), .int ((x1 >>> ((I j1) &&& 31)) &&& (1 : Int32))], hp E w)) hM_132 11 rfl ?_
  refine Ev.icF hM_132 rfl (cI_neF c2) ?_
  refine Ev.run (c' := (35, [.ref 27, .int x1, .int x2, .int (I j1), .int ((gA w 10 j1) &&& (x1 ^^^ (-1 : Int32)))], [.int ((gA w 10 j1) &&& (x1 ^^^ (-1 : Int32)))], hp E w)) hM_132 1 rfl ?_
  rw [← a1] at h1
  refine Ev.callR hd hM_132 rfl (y := 100) (as := [.int ((gA w 10 j1) &&& (x1 ^^^ (-1 : Int32)))]) (rest := []) rfl (Nat.le_of_ble_eq_true rfl) h1 ?_
  refine Ev.run (c' := (39, [.ref 27, .int x1, .int x2, .int (I j1), .int ((gA w 10 j1) &&& (x1 ^^^ (-1 : Int32)))], [.int (1 : Int32), .int v1], hp E w1)) hM_132 1 rfl ?_
  refine Ev.icT hM_132 rfl (cI_neT c3) ?_
  refine Ev.run (c' := (4, [.ref 27, .int x1, .int x2, .int ((I j1) + (1 : Int32)), .int ((gA w 10 j1) &&& (x1 ^^^ (-1 : Int32)))], [], hp E w1)) hM_132 2 rfl ?_
  exact e
theorem p132_4_c {E : Nat × (Nat → Int32)} {w : Wd} {d : Nat} {x1 x2 x3 : Int32} {u4 : Value} {o : Ou} {j1 : Nat} {y3 : Int32} (c1 : x3 < (gF w 9)) (g1 : x3 = I j1) (b1 : j1 < 9) (c2 : ¬ ((x1 >>> ((I j1) &&& 31)) &&& (1 : Int32)) = (1 : Int32)) (q3 : ((I j1) + (1 : Int32)) = y3) (e : Ev d 132 (4, [.ref 27, .int x1, .int x2, .int y3, .int ((gA w 10 j1) &&& (x1 ^^^ (-1 : Int32)))], [], hp E w) o) : Ev d 132 (4, [.ref 27, .int x1, .int x2, .int x3, u4], [], hp E w) o := by
  subst q3
  refine Ev.run (c' := (9, [.ref 27, .int x1, .int x2, .int x3, u4], [.int (gF w 9), .int x3], hp E w)) hM_132 3 rfl ?_
  refine Ev.icF hM_132 rfl (cI_geF c1) ?_
  refine Ev.run (c' := (17, [.ref 27, .int x1, .int x2, .int x3, u4], [.int x3, .ref 28], hp E w)) hM_132 3 rfl ?_
  subst g1
  refine Ev.iald hM_132 rfl (a := 28) rfl (inb_I b1 (by decide)) ?_
  rw [I_clamp (Nat.lt_of_lt_of_le b1 (by decide))]
  refine Ev.run (c' := (30, [.ref 27, .int x1, .int x2, .int (I j1), .int ((gA w 10 j1) &&& (x1 ^^^ (-1 : Int32)))], [.int (1 : Int32), .int ((x1 >>> ((I j1) &&& 31)) &&& (1 : Int32))], hp E w)) hM_132 11 rfl ?_
  refine Ev.icT hM_132 rfl (cI_neT c2) ?_
  refine Ev.run (c' := (4, [.ref 27, .int x1, .int x2, .int ((I j1) + (1 : Int32)), .int ((gA w 10 j1) &&& (x1 ^^^ (-1 : Int32)))], [], hp E w)) hM_132 2 rfl ?_
  exact e
theorem p132_4_d {E : Nat × (Nat → Int32)} {w : Wd} {d : Nat} {x1 x2 x3 : Int32} {u4 : Value}  (c1 : ¬ x3 < (gF w 9)) : Ev d 132 (4, [.ref 27, .int x1, .int x2, .int x3, u4], [], hp E w) (.inl (some (.int x2)), hp E w) := by
  refine Ev.run (c' := (9, [.ref 27, .int x1, .int x2, .int x3, u4], [.int (gF w 9), .int x3], hp E w)) hM_132 3 rfl ?_
  refine Ev.icT hM_132 rfl (cI_geT c1) ?_
  refine Ev.run (c' := (54, [.ref 27, .int x1, .int x2, .int x3, u4], [.int x2], hp E w)) hM_132 1 rfl ?_
  exact Ev.fin hM_132 rfl rfl
theorem hM_133 : mAt 133 = some km_X8_isSet := rfl
theorem p133_e_a {E : Nat × (Nat → Int32)} {w : Wd} {d : Nat} {x1 : Int32} {w1 : Wd} {v1 : Int32} (hd : 1 ≤ d) (c1 : ¬ x1 < 0) (h1 : Ev (d - 1) 99 (ent0 99 [.ref 27] (hp E w)) (.inl (some (.int v1)), hp E w1)) (c2 : ¬ v1 < x1) : Ev d 133 (ent0 133 [.ref 27, .int x1] (hp E w)) (.inl (some (.int (1 : Int32))), hp E w1) := by
  refine Ev.run (c' := (1, [.ref 27, .int x1], [.int x1], hp E w)) hM_133 1 rfl ?_
  refine Ev.ifF hM_133 rfl (cI_ltF c1) ?_
  refine Ev.run (c' := (6, [.ref 27, .int x1], [.ref 27, .int x1], hp E w)) hM_133 2 rfl ?_
  refine Ev.callR hd hM_133 rfl (y := 99) (as := [.ref 27]) (rest := [.int x1]) rfl (Nat.le_of_ble_eq_true rfl) h1 ?_
  refine Ev.run (c' := (9, [.ref 27, .int x1], [.int v1, .int x1], hp E w1)) hM_133 0 rfl ?_
  refine Ev.icF hM_133 rfl (cI_gtF c2) ?_
  refine Ev.run (c' := (17, [.ref 27, .int x1], [.int (1 : Int32)], hp E w1)) hM_133 2 rfl ?_
  exact Ev.fin hM_133 rfl rfl
theorem p133_e_b {E : Nat × (Nat → Int32)} {w : Wd} {d : Nat} {x1 : Int32} {w1 : Wd} {v1 : Int32} (hd : 1 ≤ d) (c1 : ¬ x1 < 0) (h1 : Ev (d - 1) 99 (ent0 99 [.ref 27] (hp E w)) (.inl (some (.int v1)), hp E w1)) (c2 : v1 < x1) : Ev d 133 (ent0 133 [.ref 27, .int x1] (hp E w)) (.inl (some (.int (0 : Int32))), hp E w1) := by
  refine Ev.run (c' := (1, [.ref 27, .int x1], [.int x1], hp E w)) hM_133 1 rfl ?_
  refine Ev.ifF hM_133 rfl (cI_ltF c1) ?_
  refine Ev.run (c' := (6, [.ref 27, .int x1], [.ref 27, .int x1], hp E w)) hM_133 2 rfl ?_
  refine Ev.callR hd hM_133 rfl (y := 99) (as := [.ref 27]) (rest := [.int x1]) rfl (Nat.le_of_ble_eq_true rfl) h1 ?_
  refine Ev.run (c' := (9, [.ref 27, .int x1], [.int v1, .int x1], hp E w1)) hM_133 0 rfl ?_
  refine Ev.icT hM_133 rfl (cI_gtT c2) ?_
  refine Ev.run (c' := (17, [.ref 27, .int x1], [.int (0 : Int32)], hp E w1)) hM_133 1 rfl ?_
  exact Ev.fin hM_133 rfl rfl
theorem p133_e_c {E : Nat × (Nat → Int32)} {w : Wd} {d : Nat} {x1 : Int32}  (c1 : x1 < 0) : Ev d 133 (ent0 133 [.ref 27, .int x1] (hp E w)) (.inl (some (.int (0 : Int32))), hp E w) := by
  refine Ev.run (c' := (1, [.ref 27, .int x1], [.int x1], hp E w)) hM_133 1 rfl ?_
  refine Ev.ifT hM_133 rfl (cI_ltT c1) ?_
  refine Ev.run (c' := (17, [.ref 27, .int x1], [.int (0 : Int32)], hp E w)) hM_133 1 rfl ?_
  exact Ev.fin hM_133 rfl rfl
theorem hM_134 : mAt 134 = some km_X8_lastOf := rfl
theorem p134_e_a {E : Nat × (Nat → Int32)} {w : Wd} {d : Nat} {x1 : Int32} {o : Ou} {w1 : Wd} {v1 : Int32} (hd : 1 ≤ d) (h1 : Ev (d - 1) 132 (ent0 132 [.ref 27, .int x1] (hp E w)) (.inl (some (.int v1)), hp E w1)) (e : Ev d 134 (8, [.ref 27, .int x1, .int x1, .int v1], [], hp E w1) o) : Ev d 134 (ent0 134 [.ref 27, .int x1] (hp E w)) o := by
  refine Ev.run (c' := (4, [.ref 27, .int x1, .int x1, jk], [.int x1, .ref 27], hp E w)) hM_134 4 rfl ?_
  refine Ev.callR hd hM_134 rfl (y := 132) (as := [.ref 27, .int x1]) (rest := []) rfl (Nat.le_of_ble_eq_true rfl) h1 ?_
  refine Ev.run (c' := (8, [.ref 27, .int x1, .int x1, .int v1], [], hp E w1)) hM_134 1 rfl ?_
  exact e
theorem p134_8_a {E : Nat × (Nat → Int32)} {w : Wd} {d : Nat} {x1 x2 x3 : Int32} {o : Ou} {w1 : Wd} {v1 : Int32} (hd : 1 ≤ d) (c1 : ¬ x3 = x2) (h1 : Ev (d - 1) 132 (ent0 132 [.ref 27, .int x3] (hp E w)) (.inl (some (.int v1)), hp E w1)) (e : Ev d 134 (8, [.ref 27, .int x1, .int x3, .int v1], [], hp E w1) o) : Ev d 134 (8, [.ref 27, .int x1, .int x2, .int x3], [], hp E w) o := by
  refine Ev.run (c' := (10, [.ref 27, .int x1, .int x2, .int x3], [.int x2, .int x3], hp E w)) hM_134 2 rfl ?_
  refine Ev.icF hM_134 rfl (cI_eqF c1) ?_
  refine Ev.run (c' := (17, [.ref 27, .int x1, .int x3, .int x3], [.int x3, .ref 27], hp E w)) hM_134 4 rfl ?_
  refine Ev.callR hd hM_134 rfl (y := 132) (as := [.ref 27, .int x3]) (rest := []) rfl (Nat.le_of_ble_eq_true rfl) h1 ?_
  refine Ev.run (c' := (8, [.ref 27, .int x1, .int x3, .int v1], [], hp E w1)) hM_134 2 rfl ?_
  exact e
theorem p134_8_b {E : Nat × (Nat → Int32)} {w : Wd} {d : Nat} {x1 x2 x3 : Int32}  (c1 : x3 = x2) : Ev d 134 (8, [.ref 27, .int x1, .int x2, .int x3], [], hp E w) (.inl (some (.int x2)), hp E w) := by
  refine Ev.run (c' := (10, [.ref 27, .int x1, .int x2, .int x3], [.int x2, .int x3], hp E w)) hM_134 2 rfl ?_
  refine Ev.icT hM_134 rfl (cI_eqT c1) ?_
  refine Ev.run (c' := (25, [.ref 27, .int x1, .int x2, .int x3], [.int x2], hp E w)) hM_134 1 rfl ?_
  exact Ev.fin hM_134 rfl rfl
theorem hM_135 : mAt 135 = some km_X8_forced := rfl
theorem p135_e_a {E : Nat × (Nat → Int32)} {w : Wd} {d : Nat} {x1 : Int32} {w1 : Wd} {v1 : Int32} {w2 : Wd} {v2 : Int32} (hd : 1 ≤ d) (h1 : Ev (d - 1) 133 (ent0 133 [.ref 27, .int x1] (hp E (sF 8 (0 : Int32) w))) (.inl (some (.int v1)), hp E w1)) (c1 : ¬ v1 = 0) (h2 : Ev (d - 1) 134 (ent0 134 [.ref 27, .int x1] (hp E w1)) (.inl (some (.int v2)), hp E w2)) : Ev d 135 (ent0 135 [.ref 27, .int x1] (hp E w)) (.inl (some (.int v2)), hp E w2) := by
  refine Ev.run (c' := (7, [.ref 27, .int x1], [.int x1, .ref 27], hp E (sF 8 (0 : Int32) w))) hM_135 5 rfl ?_
  refine Ev.callR hd hM_135 rfl (y := 133) (as := [.ref 27, .int x1]) (rest := []) rfl (Nat.le_of_ble_eq_true rfl) h1 ?_
  refine Ev.run (c' := (10, [.ref 27, .int x1], [.int v1], hp E w1)) hM_135 0 rfl ?_
  refine Ev.ifF hM_135 rfl (cI_eqF c1) ?_
  refine Ev.run (c' := (15, [.ref 27, .int x1], [.int x1, .ref 27], hp E w1)) hM_135 2 rfl ?_
  refine Ev.callR hd hM_135 rfl (y := 134) (as := [.ref 27, .int x1]) (rest := []) rfl (Nat.le_of_ble_eq_true rfl) h2 ?_
  refine Ev.run (c' := (26, [.ref 27, .int x1], [.int v2], hp E w2)) hM_135 1 rfl ?_
  exact Ev.fin hM_135 rfl rfl
theorem p135_e_b {E : Nat × (Nat → Int32)} {w : Wd} {d : Nat} {x1 : Int32} {w1 : Wd} {v1 : Int32} {w2 : Wd} {v2 : Int32} (hd : 1 ≤ d) (h1 : Ev (d - 1) 133 (ent0 133 [.ref 27, .int x1] (hp E (sF 8 (0 : Int32) w))) (.inl (some (.int v1)), hp E w1)) (c1 : v1 = 0) (h2 : Ev (d - 1) 97 (ent0 97 [.ref 27, .int (1 : Int32)] (hp E w1)) (.inl (some (.int v2)), hp E w2)) : Ev d 135 (ent0 135 [.ref 27, .int x1] (hp E w)) (.inl (some (.int v2)), hp E w2) := by
  refine Ev.run (c' := (7, [.ref 27, .int x1], [.int x1, .ref 27], hp E (sF 8 (0 : Int32) w))) hM_135 5 rfl ?_
  refine Ev.callR hd hM_135 rfl (y := 133) (as := [.ref 27, .int x1]) (rest := []) rfl (Nat.le_of_ble_eq_true rfl) h1 ?_
  refine Ev.run (c' := (10, [.ref 27, .int x1], [.int v1], hp E w1)) hM_135 0 rfl ?_
  refine Ev.ifT hM_135 rfl (cI_eqT c1) ?_
  refine Ev.run (c' := (23, [.ref 27, .int x1], [.int (1 : Int32), .ref 27], hp E w1)) hM_135 2 rfl ?_
  refine Ev.callR hd hM_135 rfl (y := 97) (as := [.ref 27, .int (1 : Int32)]) (rest := []) rfl (Nat.le_of_ble_eq_true rfl) h2 ?_
  refine Ev.run (c' := (26, [.ref 27, .int x1], [.int v2], hp E w2)) hM_135 0 rfl ?_
  exact Ev.fin hM_135 rfl rfl
theorem hM_136 : mAt 136 = some km_X8_rounds := rfl
theorem p136_e_a {E : Nat × (Nat → Int32)} {w : Wd} {d : Nat} {x1 : Int32} {w1 : Wd} {v1 : Int32} {w2 : Wd} {v2 : Int32} (hd : 1 ≤ d) (h1 : Ev (d - 1) 133 (ent0 133 [.ref 27, .int x1] (hp E (sF 8 (0 : Int32) w))) (.inl (some (.int v1)), hp E w1)) (c1 : v1 = 0) (h2 : Ev (d - 1) 97 (ent0 97 [.ref 27, .int (1 : Int32)] (hp E w1)) (.inl (some (.int v2)), hp E w2)) : Ev d 136 (ent0 136 [.ref 27, .int x1] (hp E w)) (.inl (some (.int v2)), hp E w2) := by
  refine Ev.run (c' := (7, [.ref 27, .int x1, jk, jk], [.int x1, .ref 27], hp E (sF 8 (0 : Int32) w))) hM_136 5 rfl ?_
  refine Ev.callR hd hM_136 rfl (y := 133) (as := [.ref 27, .int x1]) (rest := []) rfl (Nat.le_of_ble_eq_true rfl) h1 ?_
  refine Ev.run (c' := (10, [.ref 27, .int x1, jk, jk], [.int v1], hp E w1)) hM_136 0 rfl ?_
  refine Ev.ifF hM_136 rfl (cI_neF c1) ?_
  refine Ev.run (c' := (15, [.ref 27, .int x1, jk, jk], [.int (1 : Int32), .ref 27], hp E w1)) hM_136 2 rfl ?_
  refine Ev.callR hd hM_136 rfl (y := 97) (as := [.ref 27, .int (1 : Int32)]) (rest := []) rfl (Nat.le_of_ble_eq_true rfl) h2 ?_
  refine Ev.run (c' := (18, [.ref 27, .int x1, jk, jk], [.int v2], hp E w2)) hM_136 0 rfl ?_
  exact Ev.fin hM_136 rfl rfl
theorem p136_e_b {E : Nat × (Nat → Int32)} {w : Wd} {d : Nat} {x1 : Int32} {o : Ou} {w1 : Wd} {v1 : Int32} (hd : 1 ≤ d) (h1 : Ev (d - 1) 133 (ent0 133 [.ref 27, .int x1] (hp E (sF 8 (0 : Int32) w))) (.inl (some (.int v1)), hp E w1)) (c1 : ¬ v1 = 0) (e : Ev d 136 (23, [.ref 27, .int x1, .int (0 : Int32), .int x1], [], hp E w1) o) : Ev d 136 (ent0 136 [.ref 27, .int x1] (hp E w)) o := by
  refine Ev.run (c' := (7, [.ref 27, .int x1, jk, jk], [.int x1, .ref 27], hp E (sF 8 (0 : Int32) w))) hM_136 5 rfl ?_
  refine Ev.callR hd hM_136 rfl (y := 133) (as := [.ref 27, .int x1]) (rest := []) rfl (Nat.le_of_ble_eq_true rfl) h1 ?_
  refine Ev.run (c' := (10, [.ref 27, .int x1, jk, jk], [.int v1], hp E w1)) hM_136 0 rfl ?_
  refine Ev.ifT hM_136 rfl (cI_neT c1) ?_
  refine Ev.run (c' := (23, [.ref 27, .int x1, .int (0 : Int32), .int x1], [], hp E w1)) hM_136 4 rfl ?_
  exact e
theorem p136_23_a {E : Nat × (Nat → Int32)} {w : Wd} {d : Nat} {x1 x2 x3 : Int32} {o : Ou} {w1 : Wd} {v1 : Int32} {w2 : Wd} {v2 : Int32} {y2 : Int32} (hd : 1 ≤ d) (h1 : Ev (d - 1) 132 (ent0 132 [.ref 27, .int x3] (hp E w)) (.inl (some (.int v1)), hp E w1)) (c1 : ¬ v1 = x3) (h2 : Ev (d - 1) 132 (ent0 132 [.ref 27, .int x3] (hp E w1)) (.inl (some (.int v2)), hp E w2)) (q2 : (x2 + (1 : Int32)) = y2) (e : Ev d 136 (23, [.ref 27, .int x1, .int y2, .int v2], [], hp E w2) o) : Ev d 136 (23, [.ref 27, .int x1, .int x2, .int x3], [], hp E w) o := by
  subst q2
  refine Ev.run (c' := (25, [.ref 27, .int x1, .int x2, .int x3], [.int x3, .ref 27], hp E w)) hM_136 2 rfl ?_
  refine Ev.callR hd hM_136 rfl (y := 132) (as := [.ref 27, .int x3]) (rest := []) rfl (Nat.le_of_ble_eq_true rfl) h1 ?_
  refine Ev.run (c' := (29, [.ref 27, .int x1, .int x2, .int x3], [.int x3, .int v1], hp E w1)) hM_136 1 rfl ?_
  refine Ev.icF hM_136 rfl (cI_eqF c1) ?_
  refine Ev.run (c' := (34, [.ref 27, .int x1, .int x2, .int x3], [.int x3, .ref 27], hp E w1)) hM_136 2 rfl ?_
  refine Ev.callR hd hM_136 rfl (y := 132) (as := [.ref 27, .int x3]) (rest := []) rfl (Nat.le_of_ble_eq_true rfl) h2 ?_
  refine Ev.run (c' := (23, [.ref 27, .int x1, .int (x2 + (1 : Int32)), .int v2], [], hp E w2)) hM_136 3 rfl ?_
  exact e
theorem p136_23_b {E : Nat × (Nat → Int32)} {w : Wd} {d : Nat} {x1 x2 x3 : Int32} {w1 : Wd} {v1 : Int32} (hd : 1 ≤ d) (h1 : Ev (d - 1) 132 (ent0 132 [.ref 27, .int x3] (hp E w)) (.inl (some (.int v1)), hp E w1)) (c1 : v1 = x3) : Ev d 136 (23, [.ref 27, .int x1, .int x2, .int x3], [], hp E w) (.inl (some (.int x2)), hp E w1) := by
  refine Ev.run (c' := (25, [.ref 27, .int x1, .int x2, .int x3], [.int x3, .ref 27], hp E w)) hM_136 2 rfl ?_
  refine Ev.callR hd hM_136 rfl (y := 132) (as := [.ref 27, .int x3]) (rest := []) rfl (Nat.le_of_ble_eq_true rfl) h1 ?_
  refine Ev.run (c' := (29, [.ref 27, .int x1, .int x2, .int x3], [.int x3, .int v1], hp E w1)) hM_136 1 rfl ?_
  refine Ev.icT hM_136 rfl (cI_eqT c1) ?_
  refine Ev.run (c' := (45, [.ref 27, .int x1, .int x2, .int x3], [.int x2], hp E w1)) hM_136 1 rfl ?_
  exact Ev.fin hM_136 rfl rfl
theorem hM_137 : mAt 137 = some km_X8_leastBlue := rfl
theorem p137_e_a {E : Nat × (Nat → Int32)} {w : Wd} {d : Nat} {o : Ou} {w1 : Wd} {v1 : Int32} {w2 : Wd} {v2 : Int32} (hd : 1 ≤ d) (h1 : Ev (d - 1) 99 (ent0 99 [.ref 27] (hp E (sF 8 (0 : Int32) w))) (.inl (some (.int v1)), hp E w1)) (h2 : Ev (d - 1) 99 (ent0 99 [.ref 27] (hp E w1)) (.inl (some (.int v2)), hp E w2)) (e : Ev d 137 (15, [.ref 27, .int v1, .int v2], [], hp E w2) o) : Ev d 137 (ent0 137 [.ref 27] (hp E w)) o := by
  refine Ev.run (c' := (6, [.ref 27, jk, jk], [.ref 27], hp E (sF 8 (0 : Int32) w))) hM_137 4 rfl ?_
  refine Ev.callR hd hM_137 rfl (y := 99) (as := [.ref 27]) (rest := []) rfl (Nat.le_of_ble_eq_true rfl) h1 ?_
  refine Ev.run (c' := (11, [.ref 27, .int v1, jk], [.ref 27], hp E w1)) hM_137 2 rfl ?_
  refine Ev.callR hd hM_137 rfl (y := 99) (as := [.ref 27]) (rest := []) rfl (Nat.le_of_ble_eq_true rfl) h2 ?_
  refine Ev.run (c' := (15, [.ref 27, .int v1, .int v2], [], hp E w2)) hM_137 1 rfl ?_
  exact e
theorem p137_15_a {E : Nat × (Nat → Int32)} {w : Wd} {d : Nat} {x1 x2 : Int32} {o : Ou} {w1 : Wd} {v1 : Int32} {w2 : Wd} {v2 : Int32} {w3 : Wd} {v3 : Int32} {w4 : Wd} {v4 : Int32} {y2 : Int32} (hd : 1 ≤ d) (c1 : 0 < x2) (h1 : Ev (d - 1) 100 (ent0 100 [.int x2] (hp E w)) (.inl (some (.int v1)), hp E w1)) (h2 : Ev (d - 1) 100 (ent0 100 [.int x1] (hp E w1)) (.inl (some (.int v2)), hp E w2)) (c2 : ¬ v2 < v1) (h3 : Ev (d - 1) 134 (ent0 134 [.ref 27, .int x2] (hp E w2)) (.inl (some (.int v3)), hp E w3)) (h4 : Ev (d - 1) 99 (ent0 99 [.ref 27] (hp E w3)) (.inl (some (.int v4)), hp E w4)) (c3 : v3 = v4) (q2 : (x2 + (-1 : Int32)) = y2) (e : Ev d 137 (15, [.ref 27, .int x2, .int y2], [], hp E w4) o) : Ev d 137 (15, [.ref 27, .int x1, .int x2], [], hp E w) o := by
  subst q2
  refine Ev.run (c' := (16, [.ref 27, .int x1, .int x2], [.int x2], hp E w)) hM_137 1 rfl ?_
  refine Ev.ifF hM_137 rfl (cI_leF c1) ?_
  refine Ev.run (c' := (20, [.ref 27, .int x1, .int x2], [.int x2], hp E w)) hM_137 1 rfl ?_
  refine Ev.callR hd hM_137 rfl (y := 100) (as := [.int x2]) (rest := []) rfl (Nat.le_of_ble_eq_true rfl) h1 ?_
  refine Ev.run (c' := (24, [.ref 27, .int x1, .int x2], [.int x1, .int v1], hp E w1)) hM_137 1 rfl ?_
  refine Ev.callR hd hM_137 rfl (y := 100) (as := [.int x1]) (rest := [.int v1]) rfl (Nat.le_of_ble_eq_true rfl) h2 ?_
  refine Ev.run (c' := (27, [.ref 27, .int x1, .int x2], [.int v2, .int v1], hp E w2)) hM_137 0 rfl ?_
  refine Ev.icF hM_137 rfl (cI_gtF c2) ?_
  refine Ev.run (c' := (32, [.ref 27, .int x1, .int x2], [.int x2, .ref 27], hp E w2)) hM_137 2 rfl ?_
  refine Ev.callR hd hM_137 rfl (y := 134) (as := [.ref 27, .int x2]) (rest := []) rfl (Nat.le_of_ble_eq_true rfl) h3 ?_
  refine Ev.run (c' := (36, [.ref 27, .int x1, .int x2], [.ref 27, .int v3], hp E w3)) hM_137 1 rfl ?_
  refine Ev.callR hd hM_137 rfl (y := 99) (as := [.ref 27]) (rest := [.int v3]) rfl (Nat.le_of_ble_eq_true rfl) h4 ?_
  refine Ev.run (c' := (39, [.ref 27, .int x1, .int x2], [.int v4, .int v3], hp E w4)) hM_137 0 rfl ?_
  refine Ev.icF hM_137 rfl (cI_neF c3) ?_
  refine Ev.run (c' := (15, [.ref 27, .int x2, .int (x2 + (-1 : Int32))], [], hp E w4)) hM_137 4 rfl ?_
  exact e
theorem p137_15_b {E : Nat × (Nat → Int32)} {w : Wd} {d : Nat} {x1 x2 : Int32} {o : Ou} {w1 : Wd} {v1 : Int32} {w2 : Wd} {v2 : Int32} {w3 : Wd} {v3 : Int32} {w4 : Wd} {v4 : Int32} {y2 : Int32} (hd : 1 ≤ d) (c1 : 0 < x2) (h1 : Ev (d - 1) 100 (ent0 100 [.int x2] (hp E w)) (.inl (some (.int v1)), hp E w1)) (h2 : Ev (d - 1) 100 (ent0 100 [.int x1] (hp E w1)) (.inl (some (.int v2)), hp E w2)) (c2 : ¬ v2 < v1) (h3 : Ev (d - 1) 134 (ent0 134 [.ref 27, .int x2] (hp E w2)) (.inl (some (.int v3)), hp E w3)) (h4 : Ev (d - 1) 99 (ent0 99 [.ref 27] (hp E w3)) (.inl (some (.int v4)), hp E w4)) (c3 : ¬ v3 = v4) (q2 : (x2 + (-1 : Int32)) = y2) (e : Ev d 137 (15, [.ref 27, .int x1, .int y2], [], hp E w4) o) : Ev d 137 (15, [.ref 27, .int x1, .int x2], [], hp E w) o := by
  subst q2
  refine Ev.run (c' := (16, [.ref 27, .int x1, .int x2], [.int x2], hp E w)) hM_137 1 rfl ?_
  refine Ev.ifF hM_137 rfl (cI_leF c1) ?_
  refine Ev.run (c' := (20, [.ref 27, .int x1, .int x2], [.int x2], hp E w)) hM_137 1 rfl ?_
  refine Ev.callR hd hM_137 rfl (y := 100) (as := [.int x2]) (rest := []) rfl (Nat.le_of_ble_eq_true rfl) h1 ?_
  refine Ev.run (c' := (24, [.ref 27, .int x1, .int x2], [.int x1, .int v1], hp E w1)) hM_137 1 rfl ?_
  refine Ev.callR hd hM_137 rfl (y := 100) (as := [.int x1]) (rest := [.int v1]) rfl (Nat.le_of_ble_eq_true rfl) h2 ?_
  refine Ev.run (c' := (27, [.ref 27, .int x1, .int x2], [.int v2, .int v1], hp E w2)) hM_137 0 rfl ?_
  refine Ev.icF hM_137 rfl (cI_gtF c2) ?_
  refine Ev.run (c' := (32, [.ref 27, .int x1, .int x2], [.int x2, .ref 27], hp E w2)) hM_137 2 rfl ?_
  refine Ev.callR hd hM_137 rfl (y := 134) (as := [.ref 27, .int x2]) (rest := []) rfl (Nat.le_of_ble_eq_true rfl) h3 ?_
  refine Ev.run (c' := (36, [.ref 27, .int x1, .int x2], [.ref 27, .int v3], hp E w3)) hM_137 1 rfl ?_
  refine Ev.callR hd hM_137 rfl (y := 99) (as := [.ref 27]) (rest := [.int v3]) rfl (Nat.le_of_ble_eq_true rfl) h4 ?_
  refine Ev.run (c' := (39, [.ref 27, .int x1, .int x2], [.int v4, .int v3], hp E w4)) hM_137 0 rfl ?_
  refine Ev.icT hM_137 rfl (cI_neT c3) ?_
  refine Ev.run (c' := (15, [.ref 27, .int x1, .int (x2 + (-1 : Int32))], [], hp E w4)) hM_137 2 rfl ?_
  exact e
theorem p137_15_c {E : Nat × (Nat → Int32)} {w : Wd} {d : Nat} {x1 x2 : Int32} {o : Ou} {w1 : Wd} {v1 : Int32} {w2 : Wd} {v2 : Int32} {y2 : Int32} (hd : 1 ≤ d) (c1 : 0 < x2) (h1 : Ev (d - 1) 100 (ent0 100 [.int x2] (hp E w)) (.inl (some (.int v1)), hp E w1)) (h2 : Ev (d - 1) 100 (ent0 100 [.int x1] (hp E w1)) (.inl (some (.int v2)), hp E w2)) (c2 : v2 < v1) (q2 : (x2 + (-1 : Int32)) = y2) (e : Ev d 137 (15, [.ref 27, .int x1, .int y2], [], hp E w2) o) : Ev d 137 (15, [.ref 27, .int x1, .int x2], [], hp E w) o := by
  subst q2
  refine Ev.run (c' := (16, [.ref 27, .int x1, .int x2], [.int x2], hp E w)) hM_137 1 rfl ?_
  refine Ev.ifF hM_137 rfl (cI_leF c1) ?_
  refine Ev.run (c' := (20, [.ref 27, .int x1, .int x2], [.int x2], hp E w)) hM_137 1 rfl ?_
  refine Ev.callR hd hM_137 rfl (y := 100) (as := [.int x2]) (rest := []) rfl (Nat.le_of_ble_eq_true rfl) h1 ?_
  refine Ev.run (c' := (24, [.ref 27, .int x1, .int x2], [.int x1, .int v1], hp E w1)) hM_137 1 rfl ?_
  refine Ev.callR hd hM_137 rfl (y := 100) (as := [.int x1]) (rest := [.int v1]) rfl (Nat.le_of_ble_eq_true rfl) h2 ?_
  refine Ev.run (c' := (27, [.ref 27, .int x1, .int x2], [.int v2, .int v1], hp E w2)) hM_137 0 rfl ?_
  refine Ev.icT hM_137 rfl (cI_gtT c2) ?_
  refine Ev.run (c' := (15, [.ref 27, .int x1, .int (x2 + (-1 : Int32))], [], hp E w2)) hM_137 2 rfl ?_
  exact e
theorem p137_15_d {E : Nat × (Nat → Int32)} {w : Wd} {d : Nat} {x1 x2 : Int32}  (c1 : ¬ 0 < x2) : Ev d 137 (15, [.ref 27, .int x1, .int x2], [], hp E w) (.inl (some (.int x1)), hp E w) := by
  refine Ev.run (c' := (16, [.ref 27, .int x1, .int x2], [.int x2], hp E w)) hM_137 1 rfl ?_
  refine Ev.ifT hM_137 rfl (cI_leT c1) ?_
  refine Ev.run (c' := (51, [.ref 27, .int x1, .int x2], [.int x1], hp E w)) hM_137 1 rfl ?_
  exact Ev.fin hM_137 rfl rfl
end
