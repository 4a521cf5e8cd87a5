section
theorem hM_58 : mAt 58 = some km_X5_fewestMoves := rfl
theorem p58_e_a {E : Nat × (Nat → Int32)} {w : Wd} {d : Nat} {x1 x2 x3 x4 : Int32} {o : Ou}  (e : Ev d 58 (3, [.ref 2, .int x1, .int x2, .int x3, .int x4, .int (0 : Int32)], [], hp E w) o) : Ev d 58 (ent0 58 [.ref 2, .int x1, .int x2, .int x3, .int x4] (hp E w)) o := by
  refine Ev.run (c' := (3, [.ref 2, .int x1, .int x2, .int x3, .int x4, .int (0 : Int32)], [], hp E w)) hM_58 2 rfl ?_
  exact e
theorem p58_3_a {E : Nat × (Nat → Int32)} {w : Wd} {d : Nat} {x1 x2 x3 x4 x5 : Int32} {w1 : Wd} {v1 : Int32} (hd : 1 ≤ d) (c1 : ¬ x4 < x5) (c2 : ¬ (3 : Int32) < x5) (h1 : Ev (d - 1) 59 (ent0 59 [.ref 2, .int x1, .int x2, .int x3, .int x5] (hp E w)) (.inl (some (.int v1)), hp E w1)) (c3 : ¬ v1 = 0) : Ev d 58 (3, [.ref 2, .int x1, .int x2, .int x3, .int x4, .int x5], [], hp E w) (.inl (some (.int x5)), hp E w1) := by
  refine Ev.run (c' := (7, [.ref 2, .int x1, .int x2, .int x3, .int x4, .int x5], [.int x4, .int x5], hp E w)) hM_58 2 rfl ?_
  refine Ev.icF hM_58 rfl (cI_gtF c1) ?_
  refine Ev.run (c' := (13, [.ref 2, .int x1, .int x2, .int x3, .int x4, .int x5], [.int (3 : Int32), .int x5], hp E w)) hM_58 2 rfl ?_
  refine Ev.icF hM_58 rfl (cI_gtF c2) ?_
  refine Ev.run (c' := (22, [.ref 2, .int x1, .int x2, .int x3, .int x4, .int x5], [.int x5, .int x3, .int x2, .int x1, .ref 2], hp E w)) hM_58 5 rfl ?_
  refine Ev.callR hd hM_58 rfl (y := 59) (as := [.ref 2, .int x1, .int x2, .int x3, .int x5]) (rest := []) rfl (Nat.le_of_ble_eq_true rfl) h1 ?_
  refine Ev.run (c' := (25, [.ref 2, .int x1, .int x2, .int x3, .int x4, .int x5], [.int v1], hp E w1)) hM_58 0 rfl ?_
  refine Ev.ifF hM_58 rfl (cI_eqF c3) ?_
  refine Ev.run (c' := (30, [.ref 2, .int x1, .int x2, .int x3, .int x4, .int x5], [.int x5], hp E w1)) hM_58 1 rfl ?_
  exact Ev.fin hM_58 rfl rfl
theorem p58_3_b {E : Nat × (Nat → Int32)} {w : Wd} {d : Nat} {x1 x2 x3 x4 x5 : Int32} {o : Ou} {w1 : Wd} {v1 : Int32} {y5 : Int32} (hd : 1 ≤ d) (c1 : ¬ x4 < x5) (c2 : ¬ (3 : Int32) < x5) (h1 : Ev (d - 1) 59 (ent0 59 [.ref 2, .int x1, .int x2, .int x3, .int x5] (hp E w)) (.inl (some (.int v1)), hp E w1)) (c3 : v1 = 0) (q5 : (x5 + (1 : Int32)) = y5) (e : Ev d 58 (3, [.ref 2, .int x1, .int x2, .int x3, .int x4, .int y5], [], hp E w1) o) : Ev d 58 (3, [.ref 2, .int x1, .int x2, .int x3, .int x4, .int x5], [], hp E w) o := by
  subst q5
  refine Ev.run (c' := (7, [.ref 2, .int x1, .int x2, .int x3, .int x4, .int x5], [.int x4, .int x5], hp E w)) hM_58 2 rfl ?_
  refine Ev.icF hM_58 rfl (cI_gtF c1) ?_
  refine Ev.run (c' := (13, [.ref 2, .int x1, .int x2, .int x3, .int x4, .int x5], [.int (3 : Int32), .int x5], hp E w)) hM_58 2 rfl ?_
  refine Ev.icF hM_58 rfl (cI_gtF c2) ?_
  refine Ev.run (c' := (22, [.ref 2, .int x1, .int x2, .int x3, .int x4, .int x5], [.int x5, .int x3, .int x2, .int x1, .ref 2], hp E w)) hM_58 5 rfl ?_
  refine Ev.callR hd hM_58 rfl (y := 59) (as := [.ref 2, .int x1, .int x2, .int x3, .int x5]) (rest := []) rfl (Nat.le_of_ble_eq_true rfl) h1 ?_
  refine Ev.run (c' := (25, [.ref 2, .int x1, .int x2, .int x3, .int x4, .int x5], [.int v1], hp E w1)) hM_58 0 rfl ?_
  refine Ev.ifT hM_58 rfl (cI_eqT c3) ?_
  refine Ev.run (c' := (3, [.ref 2, .int x1, .int x2, .int x3, .int x4, .int (x5 + (1 : Int32))], [], hp E w1)) hM_58 2 rfl ?_
  exact e
theorem p58_3_c {E : Nat × (Nat → Int32)} {w : Wd} {d : Nat} {x1 x2 x3 x4 x5 : Int32}  (c1 : ¬ x4 < x5) (c2 : (3 : Int32) < x5) : Ev d 58 (3, [.ref 2, .int x1, .int x2, .int x3, .int x4, .int x5], [], hp E w) (.inl (some (.int (-1 : Int32))), hp E w) := by
  refine Ev.run (c' := (7, [.ref 2, .int x1, .int x2, .int x3, .int x4, .int x5], [.int x4, .int x5], hp E w)) hM_58 2 rfl ?_
  refine Ev.icF hM_58 rfl (cI_gtF c1) ?_
  refine Ev.run (c' := (13, [.ref 2, .int x1, .int x2, .int x3, .int x4, .int x5], [.int (3 : Int32), .int x5], hp E w)) hM_58 2 rfl ?_
  refine Ev.icT hM_58 rfl (cI_gtT c2) ?_
  refine Ev.run (c' := (38, [.ref 2, .int x1, .int x2, .int x3, .int x4, .int x5], [.int (-1 : Int32)], hp E w)) hM_58 1 rfl ?_
  exact Ev.fin hM_58 rfl rfl
theorem p58_3_d {E : Nat × (Nat → Int32)} {w : Wd} {d : Nat} {x1 x2 x3 x4 x5 : Int32}  (c1 : x4 < x5) : Ev d 58 (3, [.ref 2, .int x1, .int x2, .int x3, .int x4, .int x5], [], hp E w) (.inl (some (.int (-1 : Int32))), hp E w) := by
  refine Ev.run (c' := (7, [.ref 2, .int x1, .int x2, .int x3, .int x4, .int x5], [.int x4, .int x5], hp E w)) hM_58 2 rfl ?_
  refine Ev.icT hM_58 rfl (cI_gtT c1) ?_
  refine Ev.run (c' := (38, [.ref 2, .int x1, .int x2, .int x3, .int x4, .int x5], [.int (-1 : Int32)], hp E w)) hM_58 1 rfl ?_
  exact Ev.fin hM_58 rfl rfl
theorem hM_59 : mAt 59 = some km_X5_copsCatch := rfl
theorem p59_e_a {E : Nat × (Nat → Int32)} {w : Wd} {d : Nat} {x1 x2 x3 x4 : Int32}  (c1 : ¬ x3 = x1) (c2 : x3 = x2) : Ev d 59 (ent0 59 [.ref 2, .int x1, .int x2, .int x3, .int x4] (hp E w)) (.inl (some (.int (1 : Int32))), hp E w) := by
  refine Ev.run (c' := (2, [.ref 2, .int x1, .int x2, .int x3, .int x4], [.int x1, .int x3], hp E w)) hM_59 2 rfl ?_
  refine Ev.icF hM_59 rfl (cI_eqF c1) ?_
  refine Ev.run (c' := (7, [.ref 2, .int x1, .int x2, .int x3, .int x4], [.int x2, .int x3], hp E w)) hM_59 2 rfl ?_
  refine Ev.icF hM_59 rfl (cI_neF c2) ?_
  refine Ev.run (c' := (11, [.ref 2, .int x1, .int x2, .int x3, .int x4], [.int (1 : Int32)], hp E w)) hM_59 1 rfl ?_
  exact Ev.fin hM_59 rfl rfl
theorem p59_e_b {E : Nat × (Nat → Int32)} {w : Wd} {d : Nat} {x1 x2 x3 x4 : Int32}  (c1 : ¬ x3 = x1) (c2 : ¬ x3 = x2) (c3 : 0 < x4) (c4 : (3 : Int32) < x4) : Ev d 59 (ent0 59 [.ref 2, .int x1, .int x2, .int x3, .int x4] (hp E w)) (.inl (some (.int (0 : Int32))), hp E w) := by
  refine Ev.run (c' := (2, [.ref 2, .int x1, .int x2, .int x3, .int x4], [.int x1, .int x3], hp E w)) hM_59 2 rfl ?_
  refine Ev.icF hM_59 rfl (cI_eqF c1) ?_
  refine Ev.run (c' := (7, [.ref 2, .int x1, .int x2, .int x3, .int x4], [.int x2, .int x3], hp E w)) hM_59 2 rfl ?_
  refine Ev.icT hM_59 rfl (cI_neT c2) ?_
  refine Ev.run (c' := (14, [.ref 2, .int x1, .int x2, .int x3, .int x4], [.int x4], hp E w)) hM_59 1 rfl ?_
  refine Ev.ifF hM_59 rfl (cI_leF c3) ?_
  refine Ev.run (c' := (20, [.ref 2, .int x1, .int x2, .int x3, .int x4], [.int (3 : Int32), .int x4], hp E w)) hM_59 2 rfl ?_
  refine Ev.icF hM_59 rfl (cI_leF c4) ?_
  refine Ev.run (c' := (24, [.ref 2, .int x1, .int x2, .int x3, .int x4], [.int (0 : Int32)], hp E w)) hM_59 1 rfl ?_
  exact Ev.fin hM_59 rfl rfl
theorem p59_e_c {E : Nat × (Nat → Int32)} {w : Wd} {d : Nat} {x1 x2 x3 x4 : Int32} {w1 : Wd} {v1 : Int32} {w2 : Wd} {v2 : Int32} (hd : 1 ≤ d) (c1 : ¬ x3 = x1) (c2 : ¬ x3 = x2) (c3 : 0 < x4) (c4 : ¬ (3 : Int32) < x4) (h1 : Ev (d - 1) 52 (ent0 52 [.ref 2, .int x1, .int x3] (hp E w)) (.inl (some (.int v1)), hp E w1)) (c5 : v1 = 0) (h2 : Ev (d - 1) 52 (ent0 52 [.ref 2, .int x2, .int x3] (hp E w1)) (.inl (some (.int v2)), hp E w2)) (c6 : ¬ v2 = 0) : Ev d 59 (ent0 59 [.ref 2, .int x1, .int x2, .int x3, .int x4] (hp E w)) (.inl (some (.int (1 : Int32))), hp E w2) := by
  refine Ev.run (c' := (2, [.ref 2, .int x1, .int x2, .int x3, .int x4], [.int x1, .int x3], hp E w)) hM_59 2 rfl ?_
  refine Ev.icF hM_59 rfl (cI_eqF c1) ?_
  refine Ev.run (c' := (7, [.ref 2, .int x1, .int x2, .int x3, .int x4], [.int x2, .int x3], hp E w)) hM_59 2 rfl ?_
  refine Ev.icT hM_59 rfl (cI_neT c2) ?_
  refine Ev.run (c' := (14, [.ref 2, .int x1, .int x2, .int x3, .int x4], [.int x4], hp E w)) hM_59 1 rfl ?_
  refine Ev.ifF hM_59 rfl (cI_leF c3) ?_
  refine Ev.run (c' := (20, [.ref 2, .int x1, .int x2, .int x3, .int x4], [.int (3 : Int32), .int x4], hp E w)) hM_59 2 rfl ?_
  refine Ev.icT hM_59 rfl (cI_leT c4) ?_
  refine Ev.run (c' := (28, [.ref 2, .int x1, .int x2, .int x3, .int x4], [.int x3, .int x1, .ref 2], hp E w)) hM_59 3 rfl ?_
  refine Ev.callR hd hM_59 rfl (y := 52) (as := [.ref 2, .int x1, .int x3]) (rest := []) rfl (Nat.le_of_ble_eq_true rfl) h1 ?_
  refine Ev.run (c' := (31, [.ref 2, .int x1, .int x2, .int x3, .int x4], [.int v1], hp E w1)) hM_59 0 rfl ?_
  refine Ev.ifF hM_59 rfl (cI_neF c5) ?_
  refine Ev.run (c' := (37, [.ref 2, .int x1, .int x2, .int x3, .int x4], [.int x3, .int x2, .ref 2], hp E w1)) hM_59 3 rfl ?_
  refine Ev.callR hd hM_59 rfl (y := 52) (as := [.ref 2, .int x2, .int x3]) (rest := []) rfl (Nat.le_of_ble_eq_true rfl) h2 ?_
  refine Ev.run (c' := (40, [.ref 2, .int x1, .int x2, .int x3, .int x4], [.int v2], hp E w2)) hM_59 0 rfl ?_
  refine Ev.ifF hM_59 rfl (cI_eqF c6) ?_
  refine Ev.run (c' := (44, [.ref 2, .int x1, .int x2, .int x3, .int x4], [.int (1 : Int32)], hp E w2)) hM_59 1 rfl ?_
  exact Ev.fin hM_59 rfl rfl
theorem p59_e_d {E : Nat × (Nat → Int32)} {w : Wd} {d : Nat} {x1 x2 x3 x4 : Int32} {w1 : Wd} {v1 : Int32} {w2 : Wd} {v2 : Int32} {w3 : Wd} {v3 : Int32} (hd : 1 ≤ d) (c1 : ¬ x3 = x1) (c2 : ¬ x3 = x2) (c3 : 0 < x4) (c4 : ¬ (3 : Int32) < x4) (h1 : Ev (d - 1) 52 (ent0 52 [.ref 2, .int x1, .int x3] (hp E w)) (.inl (some (.int v1)), hp E w1)) (c5 : v1 = 0) (h2 : Ev (d - 1) 52 (ent0 52 [.ref 2, .int x2, .int x3] (hp E w1)) (.inl (some (.int v2)), hp E w2)) (c6 : v2 = 0) (c7 : (1 : Int32) < x4) (h3 : Ev (d - 1) 60 (ent0 60 [.ref 2, .int x1, .int x2, .int x3, .int x4] (hp E w2)) (.inl (some (.int v3)), hp E w3)) (c8 : ¬ v3 = 0) : Ev d 59 (ent0 59 [.ref 2, .int x1, .int x2, .int x3, .int x4] (hp E w)) (.inl (some (.int (1 : Int32))), hp E w3) := by
  refine Ev.run (c' := (2, [.ref 2, .int x1, .int x2, .int x3, .int x4], [.int x1, .int x3], hp E w)) hM_59 2 rfl ?_
  refine Ev.icF hM_59 rfl (cI_eqF c1) ?_
  refine Ev.run (c' := (7, [.ref 2, .int x1, .int x2, .int x3, .int x4], [.int x2, .int x3], hp E w)) hM_59 2 rfl ?_
  refine Ev.icT hM_59 rfl (cI_neT c2) ?_
  refine Ev.run (c' := (14, [.ref 2, .int x1, .int x2, .int x3, .int x4], [.int x4], hp E w)) hM_59 1 rfl ?_
  refine Ev.ifF hM_59 rfl (cI_leF c3) ?_
  refine Ev.run (c' := (20, [.ref 2, .int x1, .int x2, .int x3, .int x4], [.int (3 : Int32), .int x4], hp E w)) hM_59 2 rfl ?_
  refine Ev.icT hM_59 rfl (cI_leT c4) ?_
  refine Ev.run (c' := (28, [.ref 2, .int x1, .int x2, .int x3, .int x4], [.int x3, .int x1, .ref 2], hp E w)) hM_59 3 rfl ?_
  refine Ev.callR hd hM_59 rfl (y := 52) (as := [.ref 2, .int x1, .int x3]) (rest := []) rfl (Nat.le_of_ble_eq_true rfl) h1 ?_
  refine Ev.run (c' := (31, [.ref 2, .int x1, .int x2, .int x3, .int x4], [.int v1], hp E w1)) hM_59 0 rfl ?_
  refine Ev.ifF hM_59 rfl (cI_neF c5) ?_
  refine Ev.run (c' := (37, [.ref 2, .int x1, .int x2, .int x3, .int x4], [.int x3, .int x2, .ref 2], hp E w1)) hM_59 3 rfl ?_
  refine Ev.callR hd hM_59 rfl (y := 52) (as := [.ref 2, .int x2, .int x3]) (rest := []) rfl (Nat.le_of_ble_eq_true rfl) h2 ?_
  refine Ev.run (c' := (40, [.ref 2, .int x1, .int x2, .int x3, .int x4], [.int v2], hp E w2)) hM_59 0 rfl ?_
  refine Ev.ifT hM_59 rfl (cI_eqT c6) ?_
  refine Ev.run (c' := (48, [.ref 2, .int x1, .int x2, .int x3, .int x4], [.int (1 : Int32), .int x4], hp E w2)) hM_59 2 rfl ?_
  refine Ev.icF hM_59 rfl (cI_leF c7) ?_
  refine Ev.run (c' := (57, [.ref 2, .int x1, .int x2, .int x3, .int x4], [.int x4, .int x3, .int x2, .int x1, .ref 2], hp E w2)) hM_59 5 rfl ?_
  refine Ev.callR hd hM_59 rfl (y := 60) (as := [.ref 2, .int x1, .int x2, .int x3, .int x4]) (rest := []) rfl (Nat.le_of_ble_eq_true rfl) h3 ?_
  refine Ev.run (c' := (60, [.ref 2, .int x1, .int x2, .int x3, .int x4], [.int v3], hp E w3)) hM_59 0 rfl ?_
  refine Ev.ifF hM_59 rfl (cI_eqF c8) ?_
  refine Ev.run (c' := (68, [.ref 2, .int x1, .int x2, .int x3, .int x4], [.int (1 : Int32)], hp E w3)) hM_59 2 rfl ?_
  exact Ev.fin hM_59 rfl rfl
theorem p59_e_e {E : Nat × (Nat → Int32)} {w : Wd} {d : Nat} {x1 x2 x3 x4 : Int32} {w1 : Wd} {v1 : Int32} {w2 : Wd} {v2 : Int32} {w3 : Wd} {v3 : Int32} (hd : 1 ≤ d) (c1 : ¬ x3 = x1) (c2 : ¬ x3 = x2) (c3 : 0 < x4) (c4 : ¬ (3 : Int32) < x4) (h1 : Ev (d - 1) 52 (ent0 52 [.ref 2, .int x1, .int x3] (hp E w)) (.inl (some (.int v1)), hp E w1)) (c5 : v1 = 0) (h2 : Ev (d - 1) 52 (ent0 52 [.ref 2, .int x2, .int x3] (hp E w1)) (.inl (some (.int v2)), hp E w2)) (c6 : v2 = 0) (c7 : (1 : Int32) < x4) (h3 : Ev (d - 1) 60 (ent0 60 [.ref 2, .int x1, .int x2, .int x3, .int x4] (hp E w2)) (.inl (some (.int v3)), hp E w3)) (c8 : v3 = 0) : Ev d 59 (ent0 59 [.ref 2, .int x1, .int x2, .int x3, .int x4] (hp E w)) (.inl (some (.int (0 : Int32))), hp E w3) := by
  refine Ev.run (c' := (2, [.ref 2, .int x1, .int x2, .int x3, .int x4], [.int x1, .int x3], hp E w)) hM_59 2 rfl ?_
  refine Ev.icF hM_59 rfl (cI_eqF c1) ?_
  refine Ev.run (c' := (7, [.ref 2, .int x1, .int x2, .int x3, .int x4], [.int x2, .int x3], hp E w)) hM_59 2 rfl ?_
  refine Ev.icT hM_59 rfl (cI_neT c2) ?_
  refine Ev.run (c' := (14, [.ref 2, .int x1, .int x2, .int x3, .int x4], [.int x4], hp E w)) hM_59 1 rfl ?_
  refine Ev.ifF hM_59 rfl (cI_leF c3) ?_
  refine Ev.run (c' := (20, [.ref 2, .int x1, .int x2, .int x3, .int x4], [.int (3 : Int32), .int x4], hp E w)) hM_59 2 rfl ?_
  refine Ev.icT hM_59 rfl (cI_leT c4) ?_
  refine Ev.run (c' := (28, [.ref 2, .int x1, .int x2, .int x3, .int x4], [.int x3, .int x1, .ref 2], hp E w)) hM_59 3 rfl ?_
  refine Ev.callR hd hM_59 rfl (y := 52) (as := [.ref 2, .int x1, .int x3]) (rest := []) rfl (Nat.le_of_ble_eq_true rfl) h1 ?_
  refine Ev.run (c' := (31, [.ref 2, .int x1, .int x2, .int x3, .int x4], [.int v1], hp E w1)) hM_59 0 rfl ?_
  refine Ev.ifF hM_59 rfl (cI_neF c5) ?_
  refine Ev.run (c' := (37, [.ref 2, .int x1, .int x2, .int x3, .int x4], [.int x3, .int x2, .ref 2], hp E w1)) hM_59 3 rfl ?_
  refine Ev.callR hd hM_59 rfl (y := 52) (as := [.ref 2, .int x2, .int x3]) (rest := []) rfl (Nat.le_of_ble_eq_true rfl) h2 ?_
  refine Ev.run (c' := (40, [.ref 2, .int x1, .int x2, .int x3, .int x4], [.int v2], hp E w2)) hM_59 0 rfl ?_
  refine Ev.ifT hM_59 rfl (cI_eqT c6) ?_
  refine Ev.run (c' := (48, [.ref 2, .int x1, .int x2, .int x3, .int x4], [.int (1 : Int32), .int x4], hp E w2)) hM_59 2 rfl ?_
  refine Ev.icF hM_59 rfl (cI_leF c7) ?_
  refine Ev.run (c' := (57, [.ref 2, .int x1, .int x2, .int x3, .int x4], [.int x4, .int x3, .int x2, .int x1, .ref 2], hp E w2)) hM_59 5 rfl ?_
  refine Ev.callR hd hM_59 rfl (y := 60) (as := [.ref 2, .int x1, .int x2, .int x3, .int x4]) (rest := []) rfl (Nat.le_of_ble_eq_true rfl) h3 ?_
  refine Ev.run (c' := (60, [.ref 2, .int x1, .int x2, .int x3, .int x4], [.int v3], hp E w3)) hM_59 0 rfl ?_
  refine Ev.ifT hM_59 rfl (cI_eqT c8) ?_
  refine Ev.run (c' := (68, [.ref 2, .int x1, .int x2, .int x3, .int x4], [.int (0 : Int32)], hp E w3)) hM_59 1 rfl ?_
  exact Ev.fin hM_59 rfl rfl
theorem p59_e_f {E : Nat × (Nat → Int32)} {w : Wd} {d : Nat} {x1 x2 x3 x4 : Int32} {w1 : Wd} {v1 : Int32} {w2 : Wd} {v2 : Int32} (hd : 1 ≤ d) (c1 : ¬ x3 = x1) (c2 : ¬ x3 = x2) (c3 : 0 < x4) (c4 : ¬ (3 : Int32) < x4) (h1 : Ev (d - 1) 52 (ent0 52 [.ref 2, .int x1, .int x3] (hp E w)) (.inl (some (.int v1)), hp E w1)) (c5 : v1 = 0) (h2 : Ev (d - 1) 52 (ent0 52 [.ref 2, .int x2, .int x3] (hp E w1)) (.inl (some (.int v2)), hp E w2)) (c6 : v2 = 0) (c7 : ¬ (1 : Int32) < x4) : Ev d 59 (ent0 59 [.ref 2, .int x1, .int x2, .int x3, .int x4] (hp E w)) (.inl (some (.int (0 : Int32))), hp E w2) := by
  refine Ev.run (c' := (2, [.ref 2, .int x1, .int x2, .int x3, .int x4], [.int x1, .int x3], hp E w)) hM_59 2 rfl ?_
  refine Ev.icF hM_59 rfl (cI_eqF c1) ?_
  refine Ev.run (c' := (7, [.ref 2, .int x1, .int x2, .int x3, .int x4], [.int x2, .int x3], hp E w)) hM_59 2 rfl ?_
  refine Ev.icT hM_59 rfl (cI_neT c2) ?_
  refine Ev.run (c' := (14, [.ref 2, .int x1, .int x2, .int x3, .int x4], [.int x4], hp E w)) hM_59 1 rfl ?_
  refine Ev.ifF hM_59 rfl (cI_leF c3) ?_
  refine Ev.run (c' := (20, [.ref 2, .int x1, .int x2, .int x3, .int x4], [.int (3 : Int32), .int x4], hp E w)) hM_59 2 rfl ?_
  refine Ev.icT hM_59 rfl (cI_leT c4) ?_
  refine Ev.run (c' := (28, [.ref 2, .int x1, .int x2, .int x3, .int x4], [.int x3, .int x1, .ref 2], hp E w)) hM_59 3 rfl ?_
  refine Ev.callR hd hM_59 rfl (y := 52) (as := [.ref 2, .int x1, .int x3]) (rest := []) rfl (Nat.le_of_ble_eq_true rfl) h1 ?_
  refine Ev.run (c' := (31, [.ref 2, .int x1, .int x2, .int x3, .int x4], [.int v1], hp E w1)) hM_59 0 rfl ?_
  refine Ev.ifF hM_59 rfl (cI_neF c5) ?_
  refine Ev.run (c' := (37, [.ref 2, .int x1, .int x2, .int x3, .int x4], [.int x3, .int x2, .ref 2], hp E w1)) hM_59 3 rfl ?_
  refine Ev.callR hd hM_59 rfl (y := 52) (as := [.ref 2, .int x2, .int x3]) (rest := []) rfl (Nat.le_of_ble_eq_true rfl) h2 ?_
  refine Ev.run (c' := (40, [.ref 2, .int x1, .int x2, .int x3, .int x4], [.int v2], hp E w2)) hM_59 0 rfl ?_
  refine Ev.ifT hM_59 rfl (cI_eqT c6) ?_
  refine Ev.run (c' := (48, [.ref 2, .int x1, .int x2, .int x3, .int x4], [.int (1 : Int32), .int x4], hp E w2)) hM_59 2 rfl ?_
  refine Ev.icT hM_59 rfl (cI_leT c7) ?_
  refine Ev.run (c' := (68, [.ref 2, .int x1, .int x2, .int x3, .int x4], [.int (0 : Int32)], hp E w2)) hM_59 1 rfl ?_
  exact Ev.fin hM_59 rfl rfl
theorem p59_e_g {E : Nat × (Nat → Int32)} {w : Wd} {d : Nat} {x1 x2 x3 x4 : Int32} {w1 : Wd} {v1 : Int32} (hd : 1 ≤ d) (c1 : ¬ x3 = x1) (c2 : ¬ x3 = x2) (c3 : 0 < x4) (c4 : ¬ (3 : Int32) < x4) (h1 : Ev (d - 1) 52 (ent0 52 [.ref 2, .int x1, .int x3] (hp E w)) (.inl (some (.int v1)), hp E w1)) (c5 : ¬ v1 = 0) : Ev d 59 (ent0 59 [.ref 2, .int x1, .int x2, .int x3, .int x4] (hp E w)) (.inl (some (.int (1 : Int32))), hp E w1) := by
  refine Ev.run (c' := (2, [.ref 2, .int x1, .int x2, .int x3, .int x4], [.int x1, .int x3], hp E w)) hM_59 2 rfl ?_
  refine Ev.icF hM_59 rfl (cI_eqF c1) ?_
  refine Ev.run (c' := (7, [.ref 2, .int x1, .int x2, .int x3, .int x4], [.int x2, .int x3], hp E w)) hM_59 2 rfl ?_
  refine Ev.icT hM_59 rfl (cI_neT c2) ?_
  refine Ev.run (c' := (14, [.ref 2, .int x1, .int x2, .int x3, .int x4], [.int x4], hp E w)) hM_59 1 rfl ?_
  refine Ev.ifF hM_59 rfl (cI_leF c3) ?_
  refine Ev.run (c' := (20, [.ref 2, .int x1, .int x2, .int x3, .int x4], [.int (3 : Int32), .int x4], hp E w)) hM_59 2 rfl ?_
  refine Ev.icT hM_59 rfl (cI_leT c4) ?_
  refine Ev.run (c' := (28, [.ref 2, .int x1, .int x2, .int x3, .int x4], [.int x3, .int x1, .ref 2], hp E w)) hM_59 3 rfl ?_
  refine Ev.callR hd hM_59 rfl (y := 52) (as := [.ref 2, .int x1, .int x3]) (rest := []) rfl (Nat.le_of_ble_eq_true rfl) h1 ?_
  refine Ev.run (c' := (31, [.ref 2, .int x1, .int x2, .int x3, .int x4], [.int v1], hp E w1)) hM_59 0 rfl ?_
  refine Ev.ifT hM_59 rfl (cI_neT c5) ?_
  refine Ev.run (c' := (44, [.ref 2, .int x1, .int x2, .int x3, .int x4], [.int (1 : Int32)], hp E w1)) hM_59 1 rfl ?_
  exact Ev.fin hM_59 rfl rfl
theorem p59_e_h {E : Nat × (Nat → Int32)} {w : Wd} {d : Nat} {x1 x2 x3 x4 : Int32}  (c1 : ¬ x3 = x1) (c2 : ¬ x3 = x2) (c3 : ¬ 0 < x4) : Ev d 59 (ent0 59 [.ref 2, .int x1, .int x2, .int x3, .int x4] (hp E w)) (.inl (some (.int (0 : Int32))), hp E w) := by
  refine Ev.run (c' := (2, [.ref 2, .int x1, .int x2, .int x3, .int x4], [.int x1, .int x3], hp E w)) hM_59 2 rfl ?_
  refine Ev.icF hM_59 rfl (cI_eqF c1) ?_
  refine Ev.run (c' := (7, [.ref 2, .int x1, .int x2, .int x3, .int x4], [.int x2, .int x3], hp E w)) hM_59 2 rfl ?_
  refine Ev.icT hM_59 rfl (cI_neT c2) ?_
  refine Ev.run (c' := (14, [.ref 2, .int x1, .int x2, .int x3, .int x4], [.int x4], hp E w)) hM_59 1 rfl ?_
  refine Ev.ifT hM_59 rfl (cI_leT c3) ?_
  refine Ev.run (c' := (24, [.ref 2, .int x1, .int x2, .int x3, .int x4], [.int (0 : Int32)], hp E w)) hM_59 1 rfl ?_
  exact Ev.fin hM_59 rfl rfl
theorem p59_e_i {E : Nat × (Nat → Int32)} {w : Wd} {d : Nat} {x1 x2 x3 x4 : Int32}  (c1 : x3 = x1) : Ev d 59 (ent0 59 [.ref 2, .int x1, .int x2, .int x3, .int x4] (hp E w)) (.inl (some (.int (1 : Int32))), hp E w) := by
  refine Ev.run (c' := (2, [.ref 2, .int x1, .int x2, .int x3, .int x4], [.int x1, .int x3], hp E w)) hM_59 2 rfl ?_
  refine Ev.icT hM_59 rfl (cI_eqT c1) ?_
  refine Ev.run (c' := (11, [.ref 2, .int x1, .int x2, .int x3, .int x4], [.int (1 : Int32)], hp E w)) hM_59 1 rfl ?_
  exact Ev.fin hM_59 rfl rfl
theorem hM_60 : mAt 60 = some km_X5_someMoveCatches := rfl
theorem p60_e_a {E : Nat × (Nat → Int32)} {w : Wd} {d : Nat} {x1 x2 x3 x4 : Int32} {o : Ou}  (e : Ev d 60 (3, [.ref 2, .int x1, .int x2, .int x3, .int x4, .int (0 : Int32), jk, jk], [], hp E w) o) : Ev d 60 (ent0 60 [.ref 2, .int x1, .int x2, .int x3, .int x4] (hp E w)) o := by
  refine Ev.run (c' := (3, [.ref 2, .int x1, .int x2, .int x3, .int x4, .int (0 : Int32), jk, jk], [], hp E w)) hM_60 2 rfl ?_
  exact e
theorem p60_3_a {E : Nat × (Nat → Int32)} {w : Wd} {d : Nat} {x1 x2 x3 x4 x5 : Int32} {u6 u7 : Value} {o : Ou}  (hd : 1 ≤ d) (c1 : x5 < (gF w 1)) (e : Ev d 60 (15, [.ref 2, .int x1, .int x2, .int x3, .int x4, .int x5, .int (0 : Int32), u7], [], hp E w) o) : Ev d 60 (3, [.ref 2, .int x1, .int x2, .int x3, .int x4, .int x5, u6, u7], [], hp E w) o := by
  refine Ev.run (c' := (6, [.ref 2, .int x1, .int x2, .int x3, .int x4, .int x5, u6, u7], [.ref 2, .int x5], hp E w)) hM_60 2 rfl ?_
  refine Ev.callR hd hM_60 rfl (y := 42) (as := [.ref 2]) (rest := [.int x5]) rfl (Nat.le_of_ble_eq_true rfl) (Ev.run (c' := (4, [.ref 2], [.int (gF w 1)], hp E w)) hM_42 2 rfl (Ev.fin hM_42 rfl rfl)) ?_
  refine Ev.run (c' := (9, [.ref 2, .int x1, .int x2, .int x3, .int x4, .int x5, u6, u7], [.int (gF w 1), .int x5], hp E w)) hM_60 0 rfl ?_
  refine Ev.icF hM_60 rfl (cI_geF c1) ?_
  refine Ev.run (c' := (15, [.ref 2, .int x1, .int x2, .int x3, .int x4, .int x5, .int (0 : Int32), u7], [], hp E w)) hM_60 2 rfl ?_
  exact e
theorem p60_3_b {E : Nat × (Nat → Int32)} {w : Wd} {d : Nat} {x1 x2 x3 x4 x5 : Int32} {u6 u7 : Value}  (hd : 1 ≤ d) (c1 : ¬ x5 < (gF w 1)) : Ev d 60 (3, [.ref 2, .int x1, .int x2, .int x3, .int x4, .int x5, u6, u7], [], hp E w) (.inl (some (.int (0 : Int32))), hp E w) := by
  refine Ev.run (c' := (6, [.ref 2, .int x1, .int x2, .int x3, .int x4, .int x5, u6, u7], [.ref 2, .int x5], hp E w)) hM_60 2 rfl ?_
  refine Ev.callR hd hM_60 rfl (y := 42) (as := [.ref 2]) (rest := [.int x5]) rfl (Nat.le_of_ble_eq_true rfl) (Ev.run (c' := (4, [.ref 2], [.int (gF w 1)], hp E w)) hM_42 2 rfl (Ev.fin hM_42 rfl rfl)) ?_
  refine Ev.run (c' := (9, [.ref 2, .int x1, .int x2, .int x3, .int x4, .int x5, u6, u7], [.int (gF w 1), .int x5], hp E w)) hM_60 0 rfl ?_
  refine Ev.icT hM_60 rfl (cI_geT c1) ?_
  refine Ev.run (c' := (85, [.ref 2, .int x1, .int x2, .int x3, .int x4, .int x5, u6, u7], [.int (0 : Int32)], hp E w)) hM_60 1 rfl ?_
  exact Ev.fin hM_60 rfl rfl
theorem p60_15_a {E : Nat × (Nat → Int32)} {w : Wd} {d : Nat} {x1 x2 x3 x4 x5 x6 : Int32} {u7 : Value} {w1 : Wd} {v1 : Int32} {w2 : Wd} {v2 : Int32} {z1 : Int32} {w3 : Wd} {v3 : Int32} (hd : 1 ≤ d) (c1 : x6 < (10 : Int32)) (h1 : Ev (d - 1) 52 (ent0 52 [.ref 2, .int x1, .int x5] (hp E w)) (.inl (some (.int v1)), hp E w1)) (c2 : ¬ v1 = 0) (h2 : Ev (d - 1) 52 (ent0 52 [.ref 2, .int x2, .int x6] (hp E w1)) (.inl (some (.int v2)), hp E w2)) (c3 : ¬ v2 = 0) (a1 : (x4 - (1 : Int32)) = z1) (h3 : Ev (d - 1) 61 (ent0 61 [.ref 2, .int x5, .int x6, .int x3, .int z1] (hp E w2)) (.inl (some (.int v3)), hp E w3)) (c4 : ¬ v3 = 0) : Ev d 60 (15, [.ref 2, .int x1, .int x2, .int x3, .int x4, .int x5, .int x6, u7], [], hp E w) (.inl (some (.int (1 : Int32))), hp E w3) := by
  refine Ev.run (c' := (19, [.ref 2, .int x1, .int x2, .int x3, .int x4, .int x5, .int x6, u7], [.int (10 : Int32), .int x6], hp E w)) hM_60 2 rfl ?_
  refine Ev.icF hM_60 rfl (cI_geF c1) ?_
  refine Ev.run (c' := (26, [.ref 2, .int x1, .int x2, .int x3, .int x4, .int x5, .int x6, u7], [.int x5, .int x1, .ref 2], hp E w)) hM_60 3 rfl ?_
  refine Ev.callR hd hM_60 rfl (y := 52) (as := [.ref 2, .int x1, .int x5]) (rest := []) rfl (Nat.le_of_ble_eq_true rfl) h1 ?_
  refine Ev.run (c' := (29, [.ref 2, .int x1, .int x2, .int x3, .int x4, .int x5, .int x6, u7], [.int v1], hp E w1)) hM_60 0 rfl ?_
  refine Ev.ifF hM_60 rfl (cI_eqF c2) ?_
  refine Ev.run (c' := (36, [.ref 2, .int x1, .int x2, .int x3, .int x4, .int x5, .int x6, u7], [.int x6, .int x2, .ref 2], hp E w1)) hM_60 3 rfl ?_
  refine Ev.callR hd hM_60 rfl (y := 52) (as := [.ref 2, .int x2, .int x6]) (rest := []) rfl (Nat.le_of_ble_eq_true rfl) h2 ?_
  refine Ev.run (c' := (39, [.ref 2, .int x1, .int x2, .int x3, .int x4, .int x5, .int x6, u7], [.int v2], hp E w2)) hM_60 0 rfl ?_
  refine Ev.ifF hM_60 rfl (cI_eqF c3) ?_
  refine Ev.run (c' := (51, [.ref 2, .int x1, .int x2, .int x3, .int x4, .int x5, .int x6, .int (1 : Int32)], [.int (1 : Int32)], hp E w2)) hM_60 4 rfl ?_
  refine Ev.ifF hM_60 rfl (by decide) ?_
  refine Ev.run (c' := (64, [.ref 2, .int x1, .int x2, .int x3, .int x4, .int x5, .int x6, .int (1 : Int32)], [.int (x4 - (1 : Int32)), .int x3, .int x6, .int x5, .ref 2], hp E w2)) hM_60 7 rfl ?_
  rw [← a1] at h3
  refine Ev.callR hd hM_60 rfl (y := 61) (as := [.ref 2, .int x5, .int x6, .int x3, .int (x4 - (1 : Int32))]) (rest := []) rfl (Nat.le_of_ble_eq_true rfl) h3 ?_
  refine Ev.run (c' := (67, [.ref 2, .int x1, .int x2, .int x3, .int x4, .int x5, .int x6, .int (1 : Int32)], [.int v3], hp E w3)) hM_60 0 rfl ?_
  refine Ev.ifF hM_60 rfl (cI_eqF c4) ?_
  refine Ev.run (c' := (71, [.ref 2, .int x1, .int x2, .int x3, .int x4, .int x5, .int x6, .int (1 : Int32)], [.int (1 : Int32)], hp E w3)) hM_60 1 rfl ?_
  exact Ev.fin hM_60 rfl rfl
theorem p60_15_b {E : Nat × (Nat → Int32)} {w : Wd} {d : Nat} {x1 x2 x3 x4 x5 x6 : Int32} {u7 : Value} {o : Ou} {w1 : Wd} {v1 : Int32} {w2 : Wd} {v2 : Int32} {z1 : Int32} {w3 : Wd} {v3 : Int32} {y6 : Int32} (hd : 1 ≤ d) (c1 : x6 < (10 : Int32)) (h1 : Ev (d - 1) 52 (ent0 52 [.ref 2, .int x1, .int x5] (hp E w)) (.inl (some (.int v1)), hp E w1)) (c2 : ¬ v1 = 0) (h2 : Ev (d - 1) 52 (ent0 52 [.ref 2, .int x2, .int x6] (hp E w1)) (.inl (some (.int v2)), hp E w2)) (c3 : ¬ v2 = 0) (a1 : (x4 - (1 : Int32)) = z1) (h3 : Ev (d - 1) 61 (ent0 61 [.ref 2, .int x5, .int x6, .int x3, .int z1] (hp E w2)) (.inl (some (.int v3)), hp E w3)) (c4 : v3 = 0) (q6 : (x6 + (1 : Int32)) = y6) (e : Ev d 60 (15, [.ref 2, .int x1, .int x2, .int x3, .int x4, .int x5, .int y6, .int (1 : Int32)], [], hp E w3) o) : Ev d 60 (15, [.ref 2, .int x1, .int x2, .int x3, .int x4, .int x5, .int x6, u7], [], hp E w) o := by
  subst q6
  refine Ev.run (c' := (19, [.ref 2, .int x1, .int x2, .int x3, .int x4, .int x5, .int x6, u7], [.int (10 : Int32), .int x6], hp E w)) hM_60 2 rfl ?_
  refine Ev.icF hM_60 rfl (cI_geF c1) ?_
  refine Ev.run (c' := (26, [.ref 2, .int x1, .int x2, .int x3, .int x4, .int x5, .int x6, u7], [.int x5, .int x1, .ref 2], hp E w)) hM_60 3 rfl ?_
  refine Ev.callR hd hM_60 rfl (y := 52) (as := [.ref 2, .int x1, .int x5]) (rest := []) rfl (Nat.le_of_ble_eq_true rfl) h1 ?_
  refine Ev.run (c' := (29, [.ref 2, .int x1, .int x2, .int x3, .int x4, .int x5, .int x6, u7], [.int v1], hp E w1)) hM_60 0 rfl ?_
  refine Ev.ifF hM_60 rfl (cI_eqF c2) ?_
  refine Ev.run (c' := (36, [.ref 2, .int x1, .int x2, .int x3, .int x4, .int x5, .int x6, u7], [.int x6, .int x2, .ref 2], hp E w1)) hM_60 3 rfl ?_
  refine Ev.callR hd hM_60 rfl (y := 52) (as := [.ref 2, .int x2, .int x6]) (rest := []) rfl (Nat.le_of_ble_eq_true rfl) h2 ?_
  refine Ev.run (c' := (39, [.ref 2, .int x1, .int x2, .int x3, .int x4, .int x5, .int x6, u7], [.int v2], hp E w2)) hM_60 0 rfl ?_
  refine Ev.ifF hM_60 rfl (cI_eqF c3) ?_
  refine Ev.run (c' := (51, [.ref 2, .int x1, .int x2, .int x3, .int x4, .int x5, .int x6, .int (1 : Int32)], [.int (1 : Int32)], hp E w2)) hM_60 4 rfl ?_
  refine Ev.ifF hM_60 rfl (by decide) ?_
  refine Ev.run (c' := (64, [.ref 2, .int x1, .int x2, .int x3, .int x4, .int x5, .int x6, .int (1 : Int32)], [.int (x4 - (1 : Int32)), .int x3, .int x6, .int x5, .ref 2], hp E w2)) hM_60 7 rfl ?_
  rw [← a1] at h3
  refine Ev.callR hd hM_60 rfl (y := 61) (as := [.ref 2, .int x5, .int x6, .int x3, .int (x4 - (1 : Int32))]) (rest := []) rfl (Nat.le_of_ble_eq_true rfl) h3 ?_
  refine Ev.run (c' := (67, [.ref 2, .int x1, .int x2, .int x3, .int x4, .int x5, .int x6, .int (1 : Int32)], [.int v3], hp E w3)) hM_60 0 rfl ?_
  refine Ev.ifT hM_60 rfl (cI_eqT c4) ?_
  refine Ev.run (c' := (15, [.ref 2, .int x1, .int x2, .int x3, .int x4, .int x5, .int (x6 + (1 : Int32)), .int (1 : Int32)], [], hp E w3)) hM_60 2 rfl ?_
  exact e
theorem p60_15_c {E : Nat × (Nat → Int32)} {w : Wd} {d : Nat} {x1 x2 x3 x4 x5 x6 : Int32} {u7 : Value} {o : Ou} {w1 : Wd} {v1 : Int32} {w2 : Wd} {v2 : Int32} {y6 : Int32} (hd : 1 ≤ d) (c1 : x6 < (10 : Int32)) (h1 : Ev (d - 1) 52 (ent0 52 [.ref 2, .int x1, .int x5] (hp E w)) (.inl (some (.int v1)), hp E w1)) (c2 : ¬ v1 = 0) (h2 : Ev (d - 1) 52 (ent0 52 [.ref 2, .int x2, .int x6] (hp E w1)) (.inl (some (.int v2)), hp E w2)) (c3 : v2 = 0) (q6 : (x6 + (1 : Int32)) = y6) (e : Ev d 60 (15, [.ref 2, .int x1, .int x2, .int x3, .int x4, .int x5, .int y6, .int (0 : Int32)], [], hp E w2) o) : Ev d 60 (15, [.ref 2, .int x1, .int x2, .int x3, .int x4, .int x5, .int x6, u7], [], hp E w) o := by
  subst q6
  refine Ev.run (c' := (19, [.ref 2, .int x1, .int x2, .int x3, .int x4, .int x5, .int x6, u7], [.int (10 : Int32), .int x6], hp E w)) hM_60 2 rfl ?_
  refine Ev.icF hM_60 rfl (cI_geF c1) ?_
  refine Ev.run (c' := (26, [.ref 2, .int x1, .int x2, .int x3, .int x4, .int x5, .int x6, u7], [.int x5, .int x1, .ref 2], hp E w)) hM_60 3 rfl ?_
  refine Ev.callR hd hM_60 rfl (y := 52) (as := [.ref 2, .int x1, .int x5]) (rest := []) rfl (Nat.le_of_ble_eq_true rfl) h1 ?_
  refine Ev.run (c' := (29, [.ref 2, .int x1, .int x2, .int x3, .int x4, .int x5, .int x6, u7], [.int v1], hp E w1)) hM_60 0 rfl ?_
  refine Ev.ifF hM_60 rfl (cI_eqF c2) ?_
  refine Ev.run (c' := (36, [.ref 2, .int x1, .int x2, .int x3, .int x4, .int x5, .int x6, u7], [.int x6, .int x2, .ref 2], hp E w1)) hM_60 3 rfl ?_
  refine Ev.callR hd hM_60 rfl (y := 52) (as := [.ref 2, .int x2, .int x6]) (rest := []) rfl (Nat.le_of_ble_eq_true rfl) h2 ?_
  refine Ev.run (c' := (39, [.ref 2, .int x1, .int x2, .int x3, .int x4, .int x5, .int x6, u7], [.int v2], hp E w2)) hM_60 0 rfl ?_
  refine Ev.ifT hM_60 rfl (cI_eqT c3) ?_
  refine Ev.run (c' := (51, [.ref 2, .int x1, .int x2, .int x3, .int x4, .int x5, .int x6, .int (0 : Int32)], [.int (0 : Int32)], hp E w2)) hM_60 3 rfl ?_
  refine Ev.ifT hM_60 rfl (by decide) ?_
  refine Ev.run (c' := (15, [.ref 2, .int x1, .int x2, .int x3, .int x4, .int x5, .int (x6 + (1 : Int32)), .int (0 : Int32)], [], hp E w2)) hM_60 2 rfl ?_
  exact e
theorem p60_15_d {E : Nat × (Nat → Int32)} {w : Wd} {d : Nat} {x1 x2 x3 x4 x5 x6 : Int32} {u7 : Value} {o : Ou} {w1 : Wd} {v1 : Int32} {y6 : Int32} (hd : 1 ≤ d) (c1 : x6 < (10 : Int32)) (h1 : Ev (d - 1) 52 (ent0 52 [.ref 2, .int x1, .int x5] (hp E w)) (.inl (some (.int v1)), hp E w1)) (c2 : v1 = 0) (q6 : (x6 + (1 : Int32)) = y6) (e : Ev d 60 (15, [.ref 2, .int x1, .int x2, .int x3, .int x4, .int x5, .int y6, .int (0 : Int32)], [], hp E w1) o) : Ev d 60 (15, [.ref 2, .int x1, .int x2, .int x3, .int x4, .int x5, .int x6, u7], [], hp E w) o := by
  subst q6
  refine Ev.run (c' := (19, [.ref 2, .int x1, .int x2, .int x3, .int x4, .int x5, .int x6, u7], [.int (10 : Int32), .int x6], hp E w)) hM_60 2 rfl ?_
  refine Ev.icF hM_60 rfl (cI_geF c1) ?_
  refine Ev.run (c' := (26, [.ref 2, .int x1, .int x2, .int x3, .int x4, .int x5, .int x6, u7], [.int x5, .int x1, .ref 2], hp E w)) hM_60 3 rfl ?_
  refine Ev.callR hd hM_60 rfl (y := 52) (as := [.ref 2, .int x1, .int x5]) (rest := []) rfl (Nat.le_of_ble_eq_true rfl) h1 ?_
  refine Ev.run (c' := (29, [.ref 2, .int x1, .int x2, .int x3, .int x4, .int x5, .int x6, u7], [.int v1], hp E w1)) hM_60 0 rfl ?_
  refine Ev.ifT hM_60 rfl (cI_eqT c2) ?_
  refine Ev.run (c' := (51, [.ref 2, .int x1, .int x2, .int x3, .int x4, .int x5, .int x6, .int (0 : Int32)], [.int (0 : Int32)], hp E w1)) hM_60 3 rfl ?_
  refine Ev.ifT hM_60 rfl (by decide) ?_
  refine Ev.run (c' := (15, [.ref 2, .int x1, .int x2, .int x3, .int x4, .int x5, .int (x6 + (1 : Int32)), .int (0 : Int32)], [], hp E w1)) hM_60 2 rfl ?_
  exact e
theorem p60_15_e {E : Nat × (Nat → Int32)} {w : Wd} {d : Nat} {x1 x2 x3 x4 x5 x6 : Int32} {u7 : Value} {o : Ou} {y5 : Int32} (c1 : ¬ x6 < (10 : Int32)) (q5 : (x5 + (1 : Int32)) = y5) (e : Ev d 60 (3, [.ref 2, .int x1, .int x2, .int x3, .int x4, .int y5, .int x6, u7], [], hp E w) o) : Ev d 60 (15, [.ref 2, .int x1, .int x2, .int x3, .int x4, .int x5, .int x6, u7], [], hp E w) o := by
  subst q5
  refine Ev.run (c' := (19, [.ref 2, .int x1, .int x2, .int x3, .int x4, .int x5, .int x6, u7], [.int (10 : Int32), .int x6], hp E w)) hM_60 2 rfl ?_
  refine Ev.icT hM_60 rfl (cI_geT c1) ?_
  refine Ev.run (c' := (3, [.ref 2, .int x1, .int x2, .int x3, .int x4, .int (x5 + (1 : Int32)), .int x6, u7], [], hp E w)) hM_60 2 rfl ?_
  exact e
theorem hM_61 : mAt 61 = some km_X5_robberIsLost := rfl
theorem p61_e_a {E : Nat × (Nat → Int32)} {w : Wd} {d : Nat} {x1 x2 x3 x4 : Int32}  (c1 : ¬ x3 = x1) (c2 : x3 = x2) : Ev d 61 (ent0 61 [.ref 2, .int x1, .int x2, .int x3, .int x4] (hp E w)) (.inl (some (.int (1 : Int32))), hp E w) := by
  refine Ev.run (c' := (2, [.ref 2, .int x1, .int x2, .int x3, .int x4, jk], [.int x1, .int x3], hp E w)) hM_61 2 rfl ?_
  refine Ev.icF hM_61 rfl (cI_eqF c1) ?_
  refine Ev.run (c' := (7, [.ref 2, .int x1, .int x2, .int x3, .int x4, jk], [.int x2, .int x3], hp E w)) hM_61 2 rfl ?_
  refine Ev.icF hM_61 rfl (cI_neF c2) ?_
  refine Ev.run (c' := (11, [.ref 2, .int x1, .int x2, .int x3, .int x4, jk], [.int (1 : Int32)], hp E w)) hM_61 1 rfl ?_
  exact Ev.fin hM_61 rfl rfl
theorem p61_e_b {E : Nat × (Nat → Int32)} {w : Wd} {d : Nat} {x1 x2 x3 x4 : Int32} {o : Ou}  (c1 : ¬ x3 = x1) (c2 : ¬ x3 = x2) (e : Ev d 61 (15, [.ref 2, .int x1, .int x2, .int x3, .int x4, .int (0 : Int32)], [], hp E w) o) : Ev d 61 (ent0 61 [.ref 2, .int x1, .int x2, .int x3, .int x4] (hp E w)) o := by
  refine Ev.run (c' := (2, [.ref 2, .int x1, .int x2, .int x3, .int x4, jk], [.int x1, .int x3], hp E w)) hM_61 2 rfl ?_
  refine Ev.icF hM_61 rfl (cI_eqF c1) ?_
  refine Ev.run (c' := (7, [.ref 2, .int x1, .int x2, .int x3, .int x4, jk], [.int x2, .int x3], hp E w)) hM_61 2 rfl ?_
  refine Ev.icT hM_61 rfl (cI_neT c2) ?_
  refine Ev.run (c' := (15, [.ref 2, .int x1, .int x2, .int x3, .int x4, .int (0 : Int32)], [], hp E w)) hM_61 2 rfl ?_
  exact e
theorem p61_e_c {E : Nat × (Nat → Int32)} {w : Wd} {d : Nat} {x1 x2 x3 x4 : Int32}  (c1 : x3 = x1) : Ev d 61 (ent0 61 [.ref 2, .int x1, .int x2, .int x3, .int x4] (hp E w)) (.inl (some (.int (1 : Int32))), hp E w) := by
  refine Ev.run (c' := (2, [.ref 2, .int x1, .int x2, .int x3, .int x4, jk], [.int x1, .int x3], hp E w)) hM_61 2 rfl ?_
  refine Ev.icT hM_61 rfl (cI_eqT c1) ?_
  refine Ev.run (c' := (11, [.ref 2, .int x1, .int x2, .int x3, .int x4, jk], [.int (1 : Int32)], hp E w)) hM_61 1 rfl ?_
  exact Ev.fin hM_61 rfl rfl
theorem p61_15_a {E : Nat × (Nat → Int32)} {w : Wd} {d : Nat} {x1 x2 x3 x4 x5 : Int32} {w1 : Wd} {v1 : Int32} {w2 : Wd} {v2 : Int32} (hd : 1 ≤ d) (c1 : x5 < (gF w 1)) (h1 : Ev (d - 1) 52 (ent0 52 [.ref 2, .int x3, .int x5] (hp E w)) (.inl (some (.int v1)), hp E w1)) (c2 : ¬ v1 = 0) (h2 : Ev (d - 1) 59 (ent0 59 [.ref 2, .int x1, .int x2, .int x5, .int x4] (hp E w1)) (.inl (some (.int v2)), hp E w2)) (c3 : v2 = 0) : Ev d 61 (15, [.ref 2, .int x1, .int x2, .int x3, .int x4, .int x5], [], hp E w) (.inl (some (.int (0 : Int32))), hp E w2) := by
  refine Ev.run (c' := (18, [.ref 2, .int x1, .int x2, .int x3, .int x4, .int x5], [.ref 2, .int x5], hp E w)) hM_61 2 rfl ?_
  refine Ev.callR hd hM_61 rfl (y := 42) (as := [.ref 2]) (rest := [.int x5]) rfl (Nat.le_of_ble_eq_true rfl) (Ev.run (c' := (4, [.ref 2], [.int (gF w 1)], hp E w)) hM_42 2 rfl (Ev.fin hM_42 rfl rfl)) ?_
  refine Ev.run (c' := (21, [.ref 2, .int x1, .int x2, .int x3, .int x4, .int x5], [.int (gF w 1), .int x5], hp E w)) hM_61 0 rfl ?_
  refine Ev.icF hM_61 rfl (cI_geF c1) ?_
  refine Ev.run (c' := (28, [.ref 2, .int x1, .int x2, .int x3, .int x4, .int x5], [.int x5, .int x3, .ref 2], hp E w)) hM_61 3 rfl ?_
  refine Ev.callR hd hM_61 rfl (y := 52) (as := [.ref 2, .int x3, .int x5]) (rest := []) rfl (Nat.le_of_ble_eq_true rfl) h1 ?_
  refine Ev.run (c' := (31, [.ref 2, .int x1, .int x2, .int x3, .int x4, .int x5], [.int v1], hp E w1)) hM_61 0 rfl ?_
  refine Ev.ifF hM_61 rfl (cI_eqF c2) ?_
  refine Ev.run (c' := (41, [.ref 2, .int x1, .int x2, .int x3, .int x4, .int x5], [.int x4, .int x5, .int x2, .int x1, .ref 2], hp E w1)) hM_61 5 rfl ?_
  refine Ev.callR hd hM_61 rfl (y := 59) (as := [.ref 2, .int x1, .int x2, .int x5, .int x4]) (rest := []) rfl (Nat.le_of_ble_eq_true rfl) h2 ?_
  refine Ev.run (c' := (44, [.ref 2, .int x1, .int x2, .int x3, .int x4, .int x5], [.int v2], hp E w2)) hM_61 0 rfl ?_
  refine Ev.ifF hM_61 rfl (cI_neF c3) ?_
  refine Ev.run (c' := (48, [.ref 2, .int x1, .int x2, .int x3, .int x4, .int x5], [.int (0 : Int32)], hp E w2)) hM_61 1 rfl ?_
  exact Ev.fin hM_61 rfl rfl
theorem p61_15_b {E : Nat × (Nat → Int32)} {w : Wd} {d : Nat} {x1 x2 x3 x4 x5 : Int32} {o : Ou} {w1 : Wd} {v1 : Int32} {w2 : Wd} {v2 : Int32} {y5 : Int32} (hd : 1 ≤ d) (c1 : x5 < (gF w 1)) (h1 : Ev (d - 1) 52 (ent0 52 [.ref 2, .int x3, .int x5] (hp E w)) (.inl (some (.int v1)), hp E w1)) (c2 : ¬ v1 = 0) (h2 : Ev (d - 1) 59 (ent0 59 [.ref 2, .int x1, .int x2, .int x5, .int x4] (hp E w1)) (.inl (some (.int v2)), hp E w2)) (c3 : ¬ v2 = 0) (q5 : (x5 + (1 : Int32)) = y5) (e : Ev d 61 (15, [.ref 2, .int x1, .int x2, .int x3, .int x4, .int y5], [], hp E w2) o) : Ev d 61 (15, [.ref 2, .int x1, .int x2, .int x3, .int x4, .int x5], [], hp E w) o := by
  subst q5
  refine Ev.run (c' := (18, [.ref 2, .int x1, .int x2, .int x3, .int x4, .int x5], [.ref 2, .int x5], hp E w)) hM_61 2 rfl ?_
  refine Ev.callR hd hM_61 rfl (y := 42) (as := [.ref 2]) (rest := [.int x5]) rfl (Nat.le_of_ble_eq_true rfl) (Ev.run (c' := (4, [.ref 2], [.int (gF w 1)], hp E w)) hM_42 2 rfl (Ev.fin hM_42 rfl rfl)) ?_
  refine Ev.run (c' := (21, [.ref 2, .int x1, .int x2, .int x3, .int x4, .int x5], [.int (gF w 1), .int x5], hp E w)) hM_61 0 rfl ?_
  refine Ev.icF hM_61 rfl (cI_geF c1) ?_
  refine Ev.run (c' := (28, [.ref 2, .int x1, .int x2, .int x3, .int x4, .int x5], [.int x5, .int x3, .ref 2], hp E w)) hM_61 3 rfl ?_
  refine Ev.callR hd hM_61 rfl (y := 52) (as := [.ref 2, .int x3, .int x5]) (rest := []) rfl (Nat.le_of_ble_eq_true rfl) h1 ?_
  refine Ev.run (c' := (31, [.ref 2, .int x1, .int x2, .int x3, .int x4, .int x5], [.int v1], hp E w1)) hM_61 0 rfl ?_
  refine Ev.ifF hM_61 rfl (cI_eqF c2) ?_
  refine Ev.run (c' := (41, [.ref 2, .int x1, .int x2, .int x3, .int x4, .int x5], [.int x4, .int x5, .int x2, .int x1, .ref 2], hp E w1)) hM_61 5 rfl ?_
  refine Ev.callR hd hM_61 rfl (y := 59) (as := [.ref 2, .int x1, .int x2, .int x5, .int x4]) (rest := []) rfl (Nat.le_of_ble_eq_true rfl) h2 ?_
  refine Ev.run (c' := (44, [.ref 2, .int x1, .int x2, .int x3, .int x4, .int x5], [.int v2], hp E w2)) hM_61 0 rfl ?_
  refine Ev.ifT hM_61 rfl (cI_neT c3) ?_
  refine Ev.run (c' := (15, [.ref 2, .int x1, .int x2, .int x3, .int x4, .int (x5 + (1 : Int32))], [], hp E w2)) hM_61 2 rfl ?_
  exact e
theorem p61_15_c {E : Nat × (Nat → Int32)} {w : Wd} {d : Nat} {x1 x2 x3 x4 x5 : Int32} {o : Ou} {w1 : Wd} {v1 : Int32} {y5 : Int32} (hd : 1 ≤ d) (c1 : x5 < (gF w 1)) (h1 : Ev (d - 1) 52 (ent0 52 [.ref 2, .int x3, .int x5] (hp E w)) (.inl (some (.int v1)), hp E w1)) (c2 : v1 = 0) (q5 : (x5 + (1 : Int32)) = y5) (e : Ev d 61 (15, [.ref 2, .int x1, .int x2, .int x3, .int x4, .int y5], [], hp E w1) o) : Ev d 61 (15, [.ref 2, .int x1, .int x2, .int x3, .int x4, .int x5], [], hp E w) o := by
  subst q5
  refine Ev.run (c' := (18, [.ref 2, .int x1, .int x2, .int x3, .int x4, .int x5], [.ref 2, .int x5], hp E w)) hM_61 2 rfl ?_
  refine Ev.callR hd hM_61 rfl (y := 42) (as := [.ref 2]) (rest := [.int x5]) rfl (Nat.le_of_ble_eq_true rfl) (Ev.run (c' := (4, [.ref 2], [.int (gF w 1)], hp E w)) hM_42 2 rfl (Ev.fin hM_42 rfl rfl)) ?_
  refine Ev.run (c' := (21, [.ref 2, .int x1, .int x2, .int x3, .int x4, .int x5], [.int (gF w 1), .int x5], hp E w)) hM_61 0 rfl ?_
  refine Ev.icF hM_61 rfl (cI_geF c1) ?_
  refine Ev.run (c' := (28, [.ref 2, .int x1, .int x2, .int x3, .int x4, .int x5], [.int x5, .int x3, .ref 2], hp E w)) hM_61 3 rfl ?_
  refine Ev.callR hd hM_61 rfl (y := 52) (as := [.ref 2, .int x3, .int x5]) (rest := []) rfl (Nat.le_of_ble_eq_true rfl) h1 ?_
  refine Ev.run (c' := (31, [.ref 2, .int x1, .int x2, .int x3, .int x4, .int x5], [.int v1], hp E w1)) hM_61 0 rfl ?_
  refine Ev.ifT hM_61 rfl (cI_eqT c2) ?_
  refine Ev.run (c' := (15, [.ref 2, .int x1, .int x2, .int x3, .int x4, .int (x5 + (1 : Int32))], [], hp E w1)) hM_61 2 rfl ?_
  exact e
theorem p61_15_d {E : Nat × (Nat → Int32)} {w : Wd} {d : Nat} {x1 x2 x3 x4 x5 : Int32}  (hd : 1 ≤ d) (c1 : ¬ x5 < (gF w 1)) : Ev d 61 (15, [.ref 2, .int x1, .int x2, .int x3, .int x4, .int x5], [], hp E w) (.inl (some (.int (1 : Int32))), hp E w) := by
  refine Ev.run (c' := (18, [.ref 2, .int x1, .int x2, .int x3, .int x4, .int x5], [.ref 2, .int x5], hp E w)) hM_61 2 rfl ?_
  refine Ev.callR hd hM_61 rfl (y := 42) (as := [.ref 2]) (rest := [.int x5]) rfl (Nat.le_of_ble_eq_true rfl) (Ev.run (c' := (4, [.ref 2], [.int (gF w 1)], hp E w)) hM_42 2 rfl (Ev.fin hM_42 rfl rfl)) ?_
  refine Ev.run (c' := (21, [.ref 2, .int x1, .int x2, .int x3, .int x4, .int x5], [.int (gF w 1), .int x5], hp E w)) hM_61 0 rfl ?_
  refine Ev.icT hM_61 rfl (cI_geT c1) ?_
  refine Ev.run (c' := (56, [.ref 2, .int x1, .int x2, .int x3, .int x4, .int x5], [.int (1 : Int32)], hp E w)) hM_61 1 rfl ?_
  exact Ev.fin hM_61 rfl rfl
theorem hM_62 : mAt 62 = some km_X5_fewestShots := rfl
theorem p62_e_a {E : Nat × (Nat → Int32)} {w : Wd} {d : Nat} {x1 x2 : Int32} {o : Ou}  (e : Ev d 62 (2, [.ref 2, .int x1, .int x2, .int (0 : Int32)], [], hp E w) o) : Ev d 62 (ent0 62 [.ref 2, .int x1, .int x2] (hp E w)) o := by
  refine Ev.run (c' := (2, [.ref 2, .int x1, .int x2, .int (0 : Int32)], [], hp E w)) hM_62 2 rfl ?_
  exact e
theorem p62_2_a {E : Nat × (Nat → Int32)} {w : Wd} {d : Nat} {x1 x2 x3 : Int32} {w1 : Wd} {v1 : Int32} (hd : 1 ≤ d) (c1 : ¬ x2 < x3) (c2 : ¬ (4 : Int32) < x3) (h1 : Ev (d - 1) 63 (ent0 63 [.ref 2, .int x1, .int x3] (hp E w)) (.inl (some (.int v1)), hp E w1)) (c3 : ¬ v1 = 0) : Ev d 62 (2, [.ref 2, .int x1, .int x2, .int x3], [], hp E w) (.inl (some (.int x3)), hp E w1) := by
  refine Ev.run (c' := (4, [.ref 2, .int x1, .int x2, .int x3], [.int x2, .int x3], hp E w)) hM_62 2 rfl ?_
  refine Ev.icF hM_62 rfl (cI_gtF c1) ?_
  refine Ev.run (c' := (9, [.ref 2, .int x1, .int x2, .int x3], [.int (4 : Int32), .int x3], hp E w)) hM_62 2 rfl ?_
  refine Ev.icF hM_62 rfl (cI_gtF c2) ?_
  refine Ev.run (c' := (15, [.ref 2, .int x1, .int x2, .int x3], [.int x3, .int x1, .ref 2], hp E w)) hM_62 3 rfl ?_
  refine Ev.callR hd hM_62 rfl (y := 63) (as := [.ref 2, .int x1, .int x3]) (rest := []) rfl (Nat.le_of_ble_eq_true rfl) h1 ?_
  refine Ev.run (c' := (18, [.ref 2, .int x1, .int x2, .int x3], [.int v1], hp E w1)) hM_62 0 rfl ?_
  refine Ev.ifF hM_62 rfl (cI_eqF c3) ?_
  refine Ev.run (c' := (22, [.ref 2, .int x1, .int x2, .int x3], [.int x3], hp E w1)) hM_62 1 rfl ?_
  exact Ev.fin hM_62 rfl rfl
theorem p62_2_b {E : Nat × (Nat → Int32)} {w : Wd} {d : Nat} {x1 x2 x3 : Int32} {o : Ou} {w1 : Wd} {v1 : Int32} {y3 : Int32} (hd : 1 ≤ d) (c1 : ¬ x2 < x3) (c2 : ¬ (4 : Int32) < x3) (h1 : Ev (d - 1) 63 (ent0 63 [.ref 2, .int x1, .int x3] (hp E w)) (.inl (some (.int v1)), hp E w1)) (c3 : v1 = 0) (q3 : (x3 + (1 : Int32)) = y3) (e : Ev d 62 (2, [.ref 2, .int x1, .int x2, .int y3], [], hp E w1) o) : Ev d 62 (2, [.ref 2, .int x1, .int x2, .int x3], [], hp E w) o := by
  subst q3
  refine Ev.run (c' := (4, [.ref 2, .int x1, .int x2, .int x3], [.int x2, .int x3], hp E w)) hM_62 2 rfl ?_
  refine Ev.icF hM_62 rfl (cI_gtF c1) ?_
  refine Ev.run (c' := (9, [.ref 2, .int x1, .int x2, .int x3], [.int (4 : Int32), .int x3], hp E w)) hM_62 2 rfl ?_
  refine Ev.icF hM_62 rfl (cI_gtF c2) ?_
  refine Ev.run (c' := (15, [.ref 2, .int x1, .int x2, .int x3], [.int x3, .int x1, .ref 2], hp E w)) hM_62 3 rfl ?_
  refine Ev.callR hd hM_62 rfl (y := 63) (as := [.ref 2, .int x1, .int x3]) (rest := []) rfl (Nat.le_of_ble_eq_true rfl) h1 ?_
  refine Ev.run (c' := (18, [.ref 2, .int x1, .int x2, .int x3], [.int v1], hp E w1)) hM_62 0 rfl ?_
  refine Ev.ifT hM_62 rfl (cI_eqT c3) ?_
  refine Ev.run (c' := (2, [.ref 2, .int x1, .int x2, .int (x3 + (1 : Int32))], [], hp E w1)) hM_62 2 rfl ?_
  exact e
theorem p62_2_c {E : Nat × (Nat → Int32)} {w : Wd} {d : Nat} {x1 x2 x3 : Int32}  (c1 : ¬ x2 < x3) (c2 : (4 : Int32) < x3) : Ev d 62 (2, [.ref 2, .int x1, .int x2, .int x3], [], hp E w) (.inl (some (.int (-1 : Int32))), hp E w) := by
  refine Ev.run (c' := (4, [.ref 2, .int x1, .int x2, .int x3], [.int x2, .int x3], hp E w)) hM_62 2 rfl ?_
  refine Ev.icF hM_62 rfl (cI_gtF c1) ?_
  refine Ev.run (c' := (9, [.ref 2, .int x1, .int x2, .int x3], [.int (4 : Int32), .int x3], hp E w)) hM_62 2 rfl ?_
  refine Ev.icT hM_62 rfl (cI_gtT c2) ?_
  refine Ev.run (c' := (30, [.ref 2, .int x1, .int x2, .int x3], [.int (-1 : Int32)], hp E w)) hM_62 1 rfl ?_
  exact Ev.fin hM_62 rfl rfl
theorem p62_2_d {E : Nat × (Nat → Int32)} {w : Wd} {d : Nat} {x1 x2 x3 : Int32}  (c1 : x2 < x3) : Ev d 62 (2, [.ref 2, .int x1, .int x2, .int x3], [], hp E w) (.inl (some (.int (-1 : Int32))), hp E w) := by
  refine Ev.run (c' := (4, [.ref 2, .int x1, .int x2, .int x3], [.int x2, .int x3], hp E w)) hM_62 2 rfl ?_
  refine Ev.icT hM_62 rfl (cI_gtT c1) ?_
  refine Ev.run (c' := (30, [.ref 2, .int x1, .int x2, .int x3], [.int (-1 : Int32)], hp E w)) hM_62 1 rfl ?_
  exact Ev.fin hM_62 rfl rfl
theorem hM_63 : mAt 63 = some km_X5_shotsHit := rfl
theorem p63_e_a {E : Nat × (Nat → Int32)} {w : Wd} {d : Nat} {x1 x2 : Int32}  (c1 : x1 = 0) : Ev d 63 (ent0 63 [.ref 2, .int x1, .int x2] (hp E w)) (.inl (some (.int (1 : Int32))), hp E w) := by
  refine Ev.run (c' := (1, [.ref 2, .int x1, .int x2, jk, jk], [.int x1], hp E w)) hM_63 1 rfl ?_
  refine Ev.ifF hM_63 rfl (cI_neF c1) ?_
  refine Ev.run (c' := (5, [.ref 2, .int x1, .int x2, jk, jk], [.int (1 : Int32)], hp E w)) hM_63 1 rfl ?_
  exact Ev.fin hM_63 rfl rfl
theorem p63_e_b {E : Nat × (Nat → Int32)} {w : Wd} {d : Nat} {x1 x2 : Int32}  (c1 : ¬ x1 = 0) (c2 : 0 < x2) (c3 : (4 : Int32) < x2) : Ev d 63 (ent0 63 [.ref 2, .int x1, .int x2] (hp E w)) (.inl (some (.int (0 : Int32))), hp E w) := by
  refine Ev.run (c' := (1, [.ref 2, .int x1, .int x2, jk, jk], [.int x1], hp E w)) hM_63 1 rfl ?_
  refine Ev.ifT hM_63 rfl (cI_neT c1) ?_
  refine Ev.run (c' := (7, [.ref 2, .int x1, .int x2, jk, jk], [.int x2], hp E w)) hM_63 1 rfl ?_
  refine Ev.ifF hM_63 rfl (cI_leF c2) ?_
  refine Ev.run (c' := (12, [.ref 2, .int x1, .int x2, jk, jk], [.int (4 : Int32), .int x2], hp E w)) hM_63 2 rfl ?_
  refine Ev.icF hM_63 rfl (cI_leF c3) ?_
  refine Ev.run (c' := (16, [.ref 2, .int x1, .int x2, jk, jk], [.int (0 : Int32)], hp E w)) hM_63 1 rfl ?_
  exact Ev.fin hM_63 rfl rfl
theorem p63_e_c {E : Nat × (Nat → Int32)} {w : Wd} {d : Nat} {x1 x2 : Int32} {o : Ou}  (c1 : ¬ x1 = 0) (c2 : 0 < x2) (c3 : ¬ (4 : Int32) < x2) (e : Ev d 63 (19, [.ref 2, .int x1, .int x2, .int (0 : Int32), jk], [], hp E w) o) : Ev d 63 (ent0 63 [.ref 2, .int x1, .int x2] (hp E w)) o := by
  refine Ev.run (c' := (1, [.ref 2, .int x1, .int x2, jk, jk], [.int x1], hp E w)) hM_63 1 rfl ?_
  refine Ev.ifT hM_63 rfl (cI_neT c1) ?_
  refine Ev.run (c' := (7, [.ref 2, .int x1, .int x2, jk, jk], [.int x2], hp E w)) hM_63 1 rfl ?_
  refine Ev.ifF hM_63 rfl (cI_leF c2) ?_
  refine Ev.run (c' := (12, [.ref 2, .int x1, .int x2, jk, jk], [.int (4 : Int32), .int x2], hp E w)) hM_63 2 rfl ?_
  refine Ev.icT hM_63 rfl (cI_leT c3) ?_
  refine Ev.run (c' := (19, [.ref 2, .int x1, .int x2, .int (0 : Int32), jk], [], hp E w)) hM_63 2 rfl ?_
  exact e
theorem p63_e_d {E : Nat × (Nat → Int32)} {w : Wd} {d : Nat} {x1 x2 : Int32}  (c1 : ¬ x1 = 0) (c2 : ¬ 0 < x2) : Ev d 63 (ent0 63 [.ref 2, .int x1, .int x2] (hp E w)) (.inl (some (.int (0 : Int32))), hp E w) := by
  refine Ev.run (c' := (1, [.ref 2, .int x1, .int x2, jk, jk], [.int x1], hp E w)) hM_63 1 rfl ?_
  refine Ev.ifT hM_63 rfl (cI_neT c1) ?_
  refine Ev.run (c' := (7, [.ref 2, .int x1, .int x2, jk, jk], [.int x2], hp E w)) hM_63 1 rfl ?_
  refine Ev.ifT hM_63 rfl (cI_leT c2) ?_
  refine Ev.run (c' := (16, [.ref 2, .int x1, .int x2, jk, jk], [.int (0 : Int32)], hp E w)) hM_63 1 rfl ?_
  exact Ev.fin hM_63 rfl rfl
theorem p63_19_a {E : Nat × (Nat → Int32)} {w : Wd} {d : Nat} {x1 x2 x3 : Int32} {u4 : Value} {w1 : Wd} {v1 : Int32} {z1 : Int32} {w2 : Wd} {v2 : Int32} (hd : 1 ≤ d) (c1 : x3 < (gF w 1)) (c2 : ¬ (x1 &&& ((1 : Int32) <<< (x3 &&& 31))) = 0) (h1 : Ev (d - 1) 54 (ent0 54 [.ref 2, .int x1, .int x3] (hp E w)) (.inl (some (.int v1)), hp E w1)) (a1 : (x2 - (1 : Int32)) = z1) (h2 : Ev (d - 1) 63 (ent0 63 [.ref 2, .int v1, .int z1] (hp E w1)) (.inl (some (.int v2)), hp E w2)) (c3 : ¬ v2 = 0) : Ev d 63 (19, [.ref 2, .int x1, .int x2, .int x3, u4], [], hp E w) (.inl (some (.int (1 : Int32))), hp E w2) := by
  refine Ev.run (c' := (21, [.ref 2, .int x1, .int x2, .int x3, u4], [.ref 2, .int x3], hp E w)) hM_63 2 rfl ?_
  refine Ev.callR hd hM_63 rfl (y := 42) (as := [.ref 2]) (rest := [.int x3]) rfl (Nat.le_of_ble_eq_true rfl) (Ev.run (c' := (4, [.ref 2], [.int (gF w 1)], hp E w)) hM_42 2 rfl (Ev.fin hM_42 rfl rfl)) ?_
  refine Ev.run (c' := (24, [.ref 2, .int x1, .int x2, .int x3, u4], [.int (gF w 1), .int x3], hp E w)) hM_63 0 rfl ?_
  refine Ev.icF hM_63 rfl (cI_geF c1) ?_
  refine Ev.run (c' := (32, [.ref 2, .int x1, .int x2, .int x3, u4], [.int (x1 &&& ((1 : Int32) <<< (x3 &&& 31)))], hp E w)) hM_63 5 rfl ?_
  refine Ev.ifF hM_63 rfl (cI_eqF c2) ?_
  refine Ev.run (c' := (44, [.ref 2, .int x1, .int x2, .int x3, .int (1 : Int32)], [.int (1 : Int32)], hp E w)) hM_63 4 rfl ?_
  refine Ev.ifF hM_63 rfl (by decide) ?_
  refine Ev.run (c' := (51, [.ref 2, .int x1, .int x2, .int x3, .int (1 : Int32)], [.int x3, .int x1, .ref 2, .ref 2], hp E w)) hM_63 4 rfl ?_
  refine Ev.callR hd hM_63 rfl (y := 54) (as := [.ref 2, .int x1, .int x3]) (rest := [.ref 2]) rfl (Nat.le_of_ble_eq_true rfl) h1 ?_
  refine Ev.run (c' := (57, [.ref 2, .int x1, .int x2, .int x3, .int (1 : Int32)], [.int (x2 - (1 : Int32)), .int v1, .ref 2], hp E w1)) hM_63 3 rfl ?_
  rw [← a1] at h2
  refine Ev.callR hd hM_63 rfl (y := 63) (as := [.ref 2, .int v1, .int (x2 - (1 : Int32))]) (rest := []) rfl (Nat.le_of_ble_eq_true rfl) h2 ?_
  refine Ev.run (c' := (60, [.ref 2, .int x1, .int x2, .int x3, .int (1 : Int32)], [.int v2], hp E w2)) hM_63 0 rfl ?_
  refine Ev.ifF hM_63 rfl (cI_eqF c3) ?_
  refine Ev.run (c' := (64, [.ref 2, .int x1, .int x2, .int x3, .int (1 : Int32)], [.int (1 : Int32)], hp E w2)) hM_63 1 rfl ?_
  exact Ev.fin hM_63 rfl rfl
theorem p63_19_b {E : Nat × (Nat → Int32)} {w : Wd} {d : Nat} {x1 x2 x3 : Int32} {u4 : Value} {o : Ou} {w1 : Wd} {v1 : Int32} {z1 : Int32} {w2 : Wd} {v2 : Int32} {y3 : Int32} (hd : 1 ≤ d) (c1 : x3 < (gF w 1)) (c2 : ¬ (x1 &&& ((1 : Int32) <<< (x3 &&& 31))) = 0) (h1 : Ev (d - 1) 54 (ent0 54 [.ref 2, .int x1, .int x3] (hp E w)) (.inl (some (.int v1)), hp E w1)) (a1 : (x2 - (1 : Int32)) = z1) (h2 : Ev (d - 1) 63 (ent0 63 [.ref 2, .int v1, .int z1] (hp E w1)) (.inl (some (.int v2)), hp E w2)) (c3 : v2 = 0) (q3 : (x3 + (1 : Int32)) = y3) (e : Ev d 63 (19, [.ref 2, .int x1, .int x2, .int y3, .int (1 : Int32)], [], hp E w2) o) : Ev d 63 (19, [.ref 2, .int x1, .int x2, .int x3, u4], [], hp E w) o := by
  subst q3
  refine Ev.run (c' := (21, [.ref 2, .int x1, .int x2, .int x3, u4], [.ref 2, .int x3], hp E w)) hM_63 2 rfl ?_
  refine Ev.callR hd hM_63 rfl (y := 42) (as := [.ref 2]) (rest := [.int x3]) rfl (Nat.le_of_ble_eq_true rfl) (Ev.run (c' := (4, [.ref 2], [.int (gF w 1)], hp E w)) hM_42 2 rfl (Ev.fin hM_42 rfl rfl)) ?_
  refine Ev.run (c' := (24, [.ref 2, .int x1, .int x2, .int x3, u4], [.int (gF w 1), .int x3], hp E w)) hM_63 0 rfl ?_
  refine Ev.icF hM_63 rfl (cI_geF c1) ?_
  refine Ev.run (c' := (32, [.ref 2, .int x1, .int x2, .int x3, u4], [.int (x1 &&& ((1 : Int32) <<< (x3 &&& 31)))], hp E w)) hM_63 5 rfl ?_
  refine Ev.ifF hM_63 rfl (cI_eqF c2) ?_
  refine Ev.run (c' := (44, [.ref 2, .int x1, .int x2, .int x3, .int (1 : Int32)], [.int (1 : Int32)], hp E w)) hM_63 4 rfl ?_
  refine Ev.ifF hM_63 rfl (by decide) ?_
  refine Ev.run (c' := (51, [.ref 2, .int x1, .int x2, .int x3, .int (1 : Int32)], [.int x3, .int x1, .ref 2, .ref 2], hp E w)) hM_63 4 rfl ?_
  refine Ev.callR hd hM_63 rfl (y := 54) (as := [.ref 2, .int x1, .int x3]) (rest := [.ref 2]) rfl (Nat.le_of_ble_eq_true rfl) h1 ?_
  refine Ev.run (c' := (57, [.ref 2, .int x1, .int x2, .int x3, .int (1 : Int32)], [.int (x2 - (1 : Int32)), .int v1, .ref 2], hp E w1)) hM_63 3 rfl ?_
  rw [← a1] at h2
  refine Ev.callR hd hM_63 rfl (y := 63) (as := [.ref 2, .int v1, .int (x2 - (1 : Int32))]) (rest := []) rfl (Nat.le_of_ble_eq_true rfl) h2 ?_
  refine Ev.run (c' := (60, [.ref 2, .int x1, .int x2, .int x3, .int (1 : Int32)], [.int v2], hp E w2)) hM_63 0 rfl ?_
  refine Ev.ifT hM_63 rfl (cI_eqT c3) ?_
  refine Ev.run (c' := (19, [.ref 2, .int x1, .int x2, .int (x3 + (1 : Int32)), .int (1 : Int32)], [], hp E w2)) hM_63 2 rfl ?_
  exact e
theorem p63_19_c {E : Nat × (Nat → Int32)} {w : Wd} {d : Nat} {x1 x2 x3 : Int32} {u4 : Value} {o : Ou} {y3 : Int32} (hd : 1 ≤ d) (c1 : x3 < (gF w 1)) (c2 : (x1 &&& ((1 : Int32) <<< (x3 &&& 31))) = 0) (q3 : (x3 + (1 : Int32)) = y3) (e : Ev d 63 (19, [.ref 2, .int x1, .int x2, .int y3, .int (0 : Int32)], [], hp E w) o) : Ev d 63 (19, [.ref 2, .int x1, .int x2, .int x3, u4], [], hp E w) o := by
  subst q3
  refine Ev.run (c' := (21, [.ref 2, .int x1, .int x2, .int x3, u4], [.ref 2, .int x3], hp E w)) hM_63 2 rfl ?_
  refine Ev.callR hd hM_63 rfl (y := 42) (as := [.ref 2]) (rest := [.int x3]) rfl (Nat.le_of_ble_eq_true rfl) (Ev.run (c' := (4, [.ref 2], [.int (gF w 1)], hp E w)) hM_42 2 rfl (Ev.fin hM_42 rfl rfl)) ?_
  refine Ev.run (c' := (24, [.ref 2, .int x1, .int x2, .int x3, u4], [.int (gF w 1), .int x3], hp E w)) hM_63 0 rfl ?_
  refine Ev.icF hM_63 rfl (cI_geF c1) ?_
  refine Ev.run (c' := (32, [.ref 2, .int x1, .int x2, .int x3, u4], [.int (x1 &&& ((1 : Int32) <<< (x3 &&& 31)))], hp E w)) hM_63 5 rfl ?_
  refine Ev.ifT hM_63 rfl (cI_eqT c2) ?_
  refine Ev.run (c' := (44, [.ref 2, .int x1, .int x2, .int x3, .int (0 : Int32)], [.int (0 : Int32)], hp E w)) hM_63 3 rfl ?_
  refine Ev.ifT hM_63 rfl (by decide) ?_
  refine Ev.run (c' := (19, [.ref 2, .int x1, .int x2, .int (x3 + (1 : Int32)), .int (0 : Int32)], [], hp E w)) hM_63 2 rfl ?_
  exact e
theorem p63_19_d {E : Nat × (Nat → Int32)} {w : Wd} {d : Nat} {x1 x2 x3 : Int32} {u4 : Value}  (hd : 1 ≤ d) (c1 : ¬ x3 < (gF w 1)) : Ev d 63 (19, [.ref 2, .int x1, .int x2, .int x3, u4], [], hp E w) (.inl (some (.int (0 : Int32))), hp E w) := by
  refine Ev.run (c' := (21, [.ref 2, .int x1, .int x2, .int x3, u4], [.ref 2, .int x3], hp E w)) hM_63 2 rfl ?_
  refine Ev.callR hd hM_63 rfl (y := 42) (as := [.ref 2]) (rest := [.int x3]) rfl (Nat.le_of_ble_eq_true rfl) (Ev.run (c' := (4, [.ref 2], [.int (gF w 1)], hp E w)) hM_42 2 rfl (Ev.fin hM_42 rfl rfl)) ?_
  refine Ev.run (c' := (24, [.ref 2, .int x1, .int x2, .int x3, u4], [.int (gF w 1), .int x3], hp E w)) hM_63 0 rfl ?_
  refine Ev.icT hM_63 rfl (cI_geT c1) ?_
  refine Ev.run (c' := (72, [.ref 2, .int x1, .int x2, .int x3, u4], [.int (0 : Int32)], hp E w)) hM_63 1 rfl ?_
  exact Ev.fin hM_63 rfl rfl
theorem hM_69 : mAt 69 = some km_X7_rooms := rfl
theorem p69_e_a {E : Nat × (Nat → Int32)} {w : Wd} {d : Nat} {x1 : Int32} {w' : Wd} (c1 : ¬ x1 < (1 : Int32)) (c2 : (9 : Int32) < x1) (qw : (sT w) = w') : Ev d 69 (ent0 69 [.ref 1, .int x1] (hp E w)) (.inr 0, hp E w') := by
  subst qw
  refine Ev.run (c' := (2, [.ref 1, .int x1, jk], [.int (1 : Int32), .int x1], hp E w)) hM_69 2 rfl ?_
  refine Ev.icF hM_69 rfl (cI_ltF c1) ?_
  refine Ev.run (c' := (8, [.ref 1, .int x1, jk], [.int (9 : Int32), .int x1], hp E w)) hM_69 2 rfl ?_
  refine Ev.icF hM_69 rfl (cI_leF c2) ?_
  exact Ev.fin hM_69 rfl rfl
theorem p69_e_b {E : Nat × (Nat → Int32)} {w : Wd} {d : Nat} {x1 : Int32} {w1 : Wd} {w2 : Wd} {y : Int32} (hd : 1 ≤ d) (c1 : ¬ x1 < (1 : Int32)) (c2 : ¬ (9 : Int32) < x1) (h1 : Ev (d - 1) 39 (ent0 39 [.ref 2, .int x1] (hp E w)) (.inl none, hp E w1)) (h2 : Ev (d - 1) 89 (ent0 89 [.ref 1] (hp E w1)) (.inl none, hp E w2)) (q : (gF w 1) = y) : Ev d 69 (ent0 69 [.ref 1, .int x1] (hp E w)) (.inl (some (.int y)), hp E w2) := by
  subst q
  refine Ev.run (c' := (2, [.ref 1, .int x1, jk], [.int (1 : Int32), .int x1], hp E w)) hM_69 2 rfl ?_
  refine Ev.icF hM_69 rfl (cI_ltF c1) ?_
  refine Ev.run (c' := (8, [.ref 1, .int x1, jk], [.int (9 : Int32), .int x1], hp E w)) hM_69 2 rfl ?_
  refine Ev.icT hM_69 rfl (cI_leT c2) ?_
  refine Ev.run (c' := (25, [.ref 1, .int x1, jk], [.ref 2], hp E w)) hM_69 2 rfl ?_
  refine Ev.callR hd hM_69 rfl (y := 42) (as := [.ref 2]) (rest := []) rfl (Nat.le_of_ble_eq_true rfl) (Ev.run (c' := (4, [.ref 2], [.int (gF w 1)], hp E w)) hM_42 2 rfl (Ev.fin hM_42 rfl rfl)) ?_
  refine Ev.run (c' := (34, [.ref 1, .int x1, .int (gF w 1)], [.int x1, .ref 2], hp E w)) hM_69 4 rfl ?_
  refine Ev.callR hd hM_69 rfl (y := 39) (as := [.ref 2, .int x1]) (rest := []) rfl (Nat.le_of_ble_eq_true rfl) h1 ?_
  refine Ev.run (c' := (38, [.ref 1, .int x1, .int (gF w 1)], [.ref 1], hp E w1)) hM_69 1 rfl ?_
  refine Ev.callR hd hM_69 rfl (y := 89) (as := [.ref 1]) (rest := []) rfl (Nat.le_of_ble_eq_true rfl) h2 ?_
  refine Ev.run (c' := (42, [.ref 1, .int x1, .int (gF w 1)], [.int (gF w 1)], hp E w2)) hM_69 1 rfl ?_
  exact Ev.fin hM_69 rfl rfl
theorem p69_e_c {E : Nat × (Nat → Int32)} {w : Wd} {d : Nat} {x1 : Int32} {w' : Wd} (c1 : x1 < (1 : Int32)) (qw : (sT w) = w') : Ev d 69 (ent0 69 [.ref 1, .int x1] (hp E w)) (.inr 0, hp E w') := by
  subst qw
  refine Ev.run (c' := (2, [.ref 1, .int x1, jk], [.int (1 : Int32), .int x1], hp E w)) hM_69 2 rfl ?_
  refine Ev.icT hM_69 rfl (cI_ltT c1) ?_
  exact Ev.fin hM_69 rfl rfl
theorem hM_70 : mAt 70 = some km_X7_family := rfl
theorem p70_e_a {E : Nat × (Nat → Int32)} {w : Wd} {d : Nat} {x1 : Int32} {w' : Wd} (c1 : ¬ x1 < 0) (c2 : (3 : Int32) < x1) (qw : (sT w) = w') : Ev d 70 (ent0 70 [.ref 1, .int x1] (hp E w)) (.inr 0, hp E w') := by
  subst qw
  refine Ev.run (c' := (1, [.ref 1, .int x1], [.int x1], hp E w)) hM_70 1 rfl ?_
  refine Ev.ifF hM_70 rfl (cI_ltF c1) ?_
  refine Ev.run (c' := (6, [.ref 1, .int x1], [.int (3 : Int32), .int x1], hp E w)) hM_70 2 rfl ?_
  refine Ev.icF hM_70 rfl (cI_leF c2) ?_
  exact Ev.fin hM_70 rfl rfl
theorem p70_e_b {E : Nat × (Nat → Int32)} {w : Wd} {d : Nat} {x1 : Int32} {w' : Wd} (hd : 1 ≤ d) (c1 : ¬ x1 < 0) (c2 : ¬ (3 : Int32) < x1) (c3 : x1 = (1 : Int32)) (c4 : (gF w 1) < (3 : Int32)) (qw : (sT w) = w') : Ev d 70 (ent0 70 [.ref 1, .int x1] (hp E w)) (.inr 1, hp E w') := by
  subst qw
  refine Ev.run (c' := (1, [.ref 1, .int x1], [.int x1], hp E w)) hM_70 1 rfl ?_
  refine Ev.ifF hM_70 rfl (cI_ltF c1) ?_
  refine Ev.run (c' := (6, [.ref 1, .int x1], [.int (3 : Int32), .int x1], hp E w)) hM_70 2 rfl ?_
  refine Ev.icT hM_70 rfl (cI_leT c2) ?_
  refine Ev.run (c' := (21, [.ref 1, .int x1], [.int (1 : Int32), .int x1], hp E w)) hM_70 2 rfl ?_
  refine Ev.icF hM_70 rfl (cI_neF c3) ?_
  refine Ev.run (c' := (28, [.ref 1, .int x1], [.ref 2], hp E w)) hM_70 2 rfl ?_
  refine Ev.callR hd hM_70 rfl (y := 42) (as := [.ref 2]) (rest := []) rfl (Nat.le_of_ble_eq_true rfl) (Ev.run (c' := (4, [.ref 2], [.int (gF w 1)], hp E w)) hM_42 2 rfl (Ev.fin hM_42 rfl rfl)) ?_
  refine Ev.run (c' := (32, [.ref 1, .int x1], [.int (3 : Int32), .int (gF w 1)], hp E w)) hM_70 1 rfl ?_
  refine Ev.icF hM_70 rfl (cI_geF c4) ?_
  exact Ev.fin hM_70 rfl rfl
theorem p70_e_c {E : Nat × (Nat → Int32)} {w : Wd} {d : Nat} {x1 : Int32} {w1 : Wd} {w2 : Wd} {w3 : Wd} {v1 : Int32} (hd : 1 ≤ d) (c1 : ¬ x1 < 0) (c2 : ¬ (3 : Int32) < x1) (c3 : x1 = (1 : Int32)) (c4 : ¬ (gF w 1) < (3 : Int32)) (h1 : Ev (d - 1) 40 (ent0 40 [.ref 2, .int x1] (hp E w)) (.inl none, hp E w1)) (h2 : Ev (d - 1) 89 (ent0 89 [.ref 1] (hp E w1)) (.inl none, hp E w2)) (h3 : Ev (d - 1) 49 (ent0 49 [.ref 2] (hp E w2)) (.inl (some (.int v1)), hp E w3)) : Ev d 70 (ent0 70 [.ref 1, .int x1] (hp E w)) (.inl (some (.int v1)), hp E w3) := by
  refine Ev.run (c' := (1, [.ref 1, .int x1], [.int x1], hp E w)) hM_70 1 rfl ?_
  refine Ev.ifF hM_70 rfl (cI_ltF c1) ?_
  refine Ev.run (c' := (6, [.ref 1, .int x1], [.int (3 : Int32), .int x1], hp E w)) hM_70 2 rfl ?_
  refine Ev.icT hM_70 rfl (cI_leT c2) ?_
  refine Ev.run (c' := (21, [.ref 1, .int x1], [.int (1 : Int32), .int x1], hp E w)) hM_70 2 rfl ?_
  refine Ev.icF hM_70 rfl (cI_neF c3) ?_
  refine Ev.run (c' := (28, [.ref 1, .int x1], [.ref 2], hp E w)) hM_70 2 rfl ?_
  refine Ev.callR hd hM_70 rfl (y := 42) (as := [.ref 2]) (rest := []) rfl (Nat.le_of_ble_eq_true rfl) (Ev.run (c' := (4, [.ref 2], [.int (gF w 1)], hp E w)) hM_42 2 rfl (Ev.fin hM_42 rfl rfl)) ?_
  refine Ev.run (c' := (32, [.ref 1, .int x1], [.int (3 : Int32), .int (gF w 1)], hp E w)) hM_70 1 rfl ?_
  refine Ev.icT hM_70 rfl (cI_geT c4) ?_
  refine Ev.run (c' := (50, [.ref 1, .int x1], [.int x1, .ref 2], hp E w)) hM_70 3 rfl ?_
  refine Ev.callR hd hM_70 rfl (y := 40) (as := [.ref 2, .int x1]) (rest := []) rfl (Nat.le_of_ble_eq_true rfl) h1 ?_
  refine Ev.run (c' := (54, [.ref 1, .int x1], [.ref 1], hp E w1)) hM_70 1 rfl ?_
  refine Ev.callR hd hM_70 rfl (y := 89) (as := [.ref 1]) (rest := []) rfl (Nat.le_of_ble_eq_true rfl) h2 ?_
  refine Ev.run (c' := (61, [.ref 1, .int x1], [.ref 2], hp E w2)) hM_70 2 rfl ?_
  refine Ev.callR hd hM_70 rfl (y := 49) (as := [.ref 2]) (rest := []) rfl (Nat.le_of_ble_eq_true rfl) h3 ?_
  refine Ev.run (c' := (64, [.ref 1, .int x1], [.int v1], hp E w3)) hM_70 0 rfl ?_
  exact Ev.fin hM_70 rfl rfl
theorem p70_e_d {E : Nat × (Nat → Int32)} {w : Wd} {d : Nat} {x1 : Int32} {w1 : Wd} {w2 : Wd} {w3 : Wd} {v1 : Int32} (hd : 1 ≤ d) (c1 : ¬ x1 < 0) (c2 : ¬ (3 : Int32) < x1) (c3 : ¬ x1 = (1 : Int32)) (h1 : Ev (d - 1) 40 (ent0 40 [.ref 2, .int x1] (hp E w)) (.inl none, hp E w1)) (h2 : Ev (d - 1) 89 (ent0 89 [.ref 1] (hp E w1)) (.inl none, hp E w2)) (h3 : Ev (d - 1) 49 (ent0 49 [.ref 2] (hp E w2)) (.inl (some (.int v1)), hp E w3)) : Ev d 70 (ent0 70 [.ref 1, .int x1] (hp E w)) (.inl (some (.int v1)), hp E w3) := by
  refine Ev.run (c' := (1, [.ref 1, .int x1], [.int x1], hp E w)) hM_70 1 rfl ?_
  refine Ev.ifF hM_70 rfl (cI_ltF c1) ?_
  refine Ev.run (c' := (6, [.ref 1, .int x1], [.int (3 : Int32), .int x1], hp E w)) hM_70 2 rfl ?_
  refine Ev.icT hM_70 rfl (cI_leT c2) ?_
  refine Ev.run (c' := (21, [.ref 1, .int x1], [.int (1 : Int32), .int x1], hp E w)) hM_70 2 rfl ?_
  refine Ev.icT hM_70 rfl (cI_neT c3) ?_
  refine Ev.run (c' := (50, [.ref 1, .int x1], [.int x1, .ref 2], hp E w)) hM_70 3 rfl ?_
  refine Ev.callR hd hM_70 rfl (y := 40) (as := [.ref 2, .int x1]) (rest := []) rfl (Nat.le_of_ble_eq_true rfl) h1 ?_
  refine Ev.run (c' := (54, [.ref 1, .int x1], [.ref 1], hp E w1)) hM_70 1 rfl ?_
  refine Ev.callR hd hM_70 rfl (y := 89) (as := [.ref 1]) (rest := []) rfl (Nat.le_of_ble_eq_true rfl) h2 ?_
  refine Ev.run (c' := (61, [.ref 1, .int x1], [.ref 2], hp E w2)) hM_70 2 rfl ?_
  refine Ev.callR hd hM_70 rfl (y := 49) (as := [.ref 2]) (rest := []) rfl (Nat.le_of_ble_eq_true rfl) h3 ?_
  refine Ev.run (c' := (64, [.ref 1, .int x1], [.int v1], hp E w3)) hM_70 0 rfl ?_
  exact Ev.fin hM_70 rfl rfl
theorem p70_e_e {E : Nat × (Nat → Int32)} {w : Wd} {d : Nat} {x1 : Int32} {w' : Wd} (c1 : x1 < 0) (qw : (sT w) = w') : Ev d 70 (ent0 70 [.ref 1, .int x1] (hp E w)) (.inr 0, hp E w') := by
  subst qw
  refine Ev.run (c' := (1, [.ref 1, .int x1], [.int x1], hp E w)) hM_70 1 rfl ?_
  refine Ev.ifT hM_70 rfl (cI_ltT c1) ?_
  exact Ev.fin hM_70 rfl rfl
theorem hM_71 : mAt 71 = some km_X7_door := rfl
theorem p71_e_a {E : Nat × (Nat → Int32)} {w : Wd} {d : Nat} {x1 x2 x3 : Int32} {w1 : Wd} (hd : 1 ≤ d) (h1 : Ev (d - 1) 90 (ent0 90 [.ref 1, .int x1] (hp E w)) (.inr 2, hp E w1)) : Ev d 71 (ent0 71 [.ref 1, .int x1, .int x2, .int x3] (hp E w)) (.inr 2, hp E w1) := by
  refine Ev.run (c' := (2, [.ref 1, .int x1, .int x2, .int x3, jk], [.int x1, .ref 1], hp E w)) hM_71 2 rfl ?_
  refine Ev.passR hd hM_71 rfl (y := 90) (as := [.ref 1, .int x1]) (rest := []) rfl (Nat.le_of_ble_eq_true rfl) rfl rfl h1
theorem p71_e_b {E : Nat × (Nat → Int32)} {w : Wd} {d : Nat} {x1 x2 x3 : Int32} {w1 : Wd} {w2 : Wd} (hd : 1 ≤ d) (h1 : Ev (d - 1) 90 (ent0 90 [.ref 1, .int x1] (hp E w)) (.inl none, hp E w1)) (h2 : Ev (d - 1) 90 (ent0 90 [.ref 1, .int x2] (hp E w1)) (.inr 2, hp E w2)) : Ev d 71 (ent0 71 [.ref 1, .int x1, .int x2, .int x3] (hp E w)) (.inr 2, hp E w2) := by
  refine Ev.run (c' := (2, [.ref 1, .int x1, .int x2, .int x3, jk], [.int x1, .ref 1], hp E w)) hM_71 2 rfl ?_
  refine Ev.callR hd hM_71 rfl (y := 90) (as := [.ref 1, .int x1]) (rest := []) rfl (Nat.le_of_ble_eq_true rfl) h1 ?_
  refine Ev.run (c' := (7, [.ref 1, .int x1, .int x2, .int x3, jk], [.int x2, .ref 1], hp E w1)) hM_71 2 rfl ?_
  refine Ev.passR hd hM_71 rfl (y := 90) (as := [.ref 1, .int x2]) (rest := []) rfl (Nat.le_of_ble_eq_true rfl) rfl rfl h2
theorem p71_e_c {E : Nat × (Nat → Int32)} {w : Wd} {d : Nat} {x1 x2 x3 : Int32} {w1 : Wd} {w2 : Wd} {w' : Wd} (hd : 1 ≤ d) (h1 : Ev (d - 1) 90 (ent0 90 [.ref 1, .int x1] (hp E w)) (.inl none, hp E w1)) (h2 : Ev (d - 1) 90 (ent0 90 [.ref 1, .int x2] (hp E w1)) (.inl none, hp E w2)) (c1 : x1 = x2) (qw : (sT w2) = w') : Ev d 71 (ent0 71 [.ref 1, .int x1, .int x2, .int x3] (hp E w)) (.inr 0, hp E w') := by
  subst qw
  refine Ev.run (c' := (2, [.ref 1, .int x1, .int x2, .int x3, jk], [.int x1, .ref 1], hp E w)) hM_71 2 rfl ?_
  refine Ev.callR hd hM_71 rfl (y := 90) (as := [.ref 1, .int x1]) (rest := []) rfl (Nat.le_of_ble_eq_true rfl) h1 ?_
  refine Ev.run (c' := (7, [.ref 1, .int x1, .int x2, .int x3, jk], [.int x2, .ref 1], hp E w1)) hM_71 2 rfl ?_
  refine Ev.callR hd hM_71 rfl (y := 90) (as := [.ref 1, .int x2]) (rest := []) rfl (Nat.le_of_ble_eq_true rfl) h2 ?_
  refine Ev.run (c' := (12, [.ref 1, .int x1, .int x2, .int x3, jk], [.int x2, .int x1], hp E w2)) hM_71 2 rfl ?_
  refine Ev.icF hM_71 rfl (cI_neF c1) ?_
  exact Ev.fin hM_71 rfl rfl
theorem p71_e_d {E : Nat × (Nat → Int32)} {w : Wd} {d : Nat} {x1 x2 x3 : Int32} {w1 : Wd} {w2 : Wd} {w3 : Wd} {v1 : Int32} {w4 : Wd} (hd : 1 ≤ d) (h1 : Ev (d - 1) 90 (ent0 90 [.ref 1, .int x1] (hp E w)) (.inl none, hp E w1)) (h2 : Ev (d - 1) 90 (ent0 90 [.ref 1, .int x2] (hp E w1)) (.inl none, hp E w2)) (c1 : ¬ x1 = x2) (h3 : Ev (d - 1) 47 (ent0 47 [.ref 2, .int x1, .int x2] (hp E w2)) (.inl (some (.int v1)), hp E w3)) (c2 : ¬ v1 = x3) (h4 : Ev (d - 1) 93 (ent0 93 [.ref 1] (hp E w3)) (.inr 1, hp E w4)) : Ev d 71 (ent0 71 [.ref 1, .int x1, .int x2, .int x3] (hp E w)) (.inr 1, hp E w4) := by
  refine Ev.run (c' := (2, [.ref 1, .int x1, .int x2, .int x3, jk], [.int x1, .ref 1], hp E w)) hM_71 2 rfl ?_
  refine Ev.callR hd hM_71 rfl (y := 90) (as := [.ref 1, .int x1]) (rest := []) rfl (Nat.le_of_ble_eq_true rfl) h1 ?_
  refine Ev.run (c' := (7, [.ref 1, .int x1, .int x2, .int x3, jk], [.int x2, .ref 1], hp E w1)) hM_71 2 rfl ?_
  refine Ev.callR hd hM_71 rfl (y := 90) (as := [.ref 1, .int x2]) (rest := []) rfl (Nat.le_of_ble_eq_true rfl) h2 ?_
  refine Ev.run (c' := (12, [.ref 1, .int x1, .int x2, .int x3, jk], [.int x2, .int x1], hp E w2)) hM_71 2 rfl ?_
  refine Ev.icT hM_71 rfl (cI_neT c1) ?_
  refine Ev.run (c' := (31, [.ref 1, .int x1, .int x2, .int x3, jk], [.int x2, .int x1, .ref 2], hp E w2)) hM_71 4 rfl ?_
  refine Ev.callR hd hM_71 rfl (y := 47) (as := [.ref 2, .int x1, .int x2]) (rest := []) rfl (Nat.le_of_ble_eq_true rfl) h3 ?_
  refine Ev.run (c' := (39, [.ref 1, .int x1, .int x2, .int x3, .int v1], [.int x3, .int v1], hp E w3)) hM_71 3 rfl ?_
  refine Ev.icF hM_71 rfl (cI_eqF c2) ?_
  refine Ev.run (c' := (43, [.ref 1, .int x1, .int x2, .int x3, .int v1], [.ref 1], hp E w3)) hM_71 1 rfl ?_
  refine Ev.passR hd hM_71 rfl (y := 93) (as := [.ref 1]) (rest := []) rfl (Nat.le_of_ble_eq_true rfl) rfl rfl h4
theorem p71_e_e {E : Nat × (Nat → Int32)} {w : Wd} {d : Nat} {x1 x2 x3 : Int32} {w1 : Wd} {w2 : Wd} {w3 : Wd} {v1 : Int32} {w4 : Wd} {z1 : Int32} {w5 : Wd} {w6 : Wd} {w7 : Wd} {v2 : Int32} {w' : Wd} (hd : 1 ≤ d) (h1 : Ev (d - 1) 90 (ent0 90 [.ref 1, .int x1] (hp E w)) (.inl none, hp E w1)) (h2 : Ev (d - 1) 90 (ent0 90 [.ref 1, .int x2] (hp E w1)) (.inl none, hp E w2)) (c1 : ¬ x1 = x2) (h3 : Ev (d - 1) 47 (ent0 47 [.ref 2, .int x1, .int x2] (hp E w2)) (.inl (some (.int v1)), hp E w3)) (c2 : ¬ v1 = x3) (h4 : Ev (d - 1) 93 (ent0 93 [.ref 1] (hp E w3)) (.inl none, hp E w4)) (a1 : (gF w4 0) = z1) (h5 : Ev (d - 1) 33 (ent0 33 [.ref 5, .int x1, .int x2, .int z1] (hp E w4)) (.inl none, hp E w5)) (h6 : Ev (d - 1) 48 (ent0 48 [.ref 2, .int x1, .int x2] (hp E w5)) (.inl none, hp E w6)) (h7 : Ev (d - 1) 45 (ent0 45 [.ref 2] (hp E w6)) (.inl (some (.int v2)), hp E w7)) (qw : (sF 0 v2 w7) = w') (hb : v1 &&& 1 = v1) : Ev d 71 (ent0 71 [.ref 1, .int x1, .int x2, .int x3] (hp E w)) (.inl (some (.int v1)), hp E w') := by
  subst qw
  refine Ev.run (c' := (2, [.ref 1, .int x1, .int x2, .int x3, jk], [.int x1, .ref 1], hp E w)) hM_71 2 rfl ?_
  refine Ev.callR hd hM_71 rfl (y := 90) (as := [.ref 1, .int x1]) (rest := []) rfl (Nat.le_of_ble_eq_true rfl) h1 ?_
  refine Ev.run (c' := (7, [.ref 1, .int x1, .int x2, .int x3, jk], [.int x2, .ref 1], hp E w1)) hM_71 2 rfl ?_
  refine Ev.callR hd hM_71 rfl (y := 90) (as := [.ref 1, .int x2]) (rest := []) rfl (Nat.le_of_ble_eq_true rfl) h2 ?_
  refine Ev.run (c' := (12, [.ref 1, .int x1, .int x2, .int x3, jk], [.int x2, .int x1], hp E w2)) hM_71 2 rfl ?_
  refine Ev.icT hM_71 rfl (cI_neT c1) ?_
  refine Ev.run (c' := (31, [.ref 1, .int x1, .int x2, .int x3, jk], [.int x2, .int x1, .ref 2], hp E w2)) hM_71 4 rfl ?_
  refine Ev.callR hd hM_71 rfl (y := 47) (as := [.ref 2, .int x1, .int x2]) (rest := []) rfl (Nat.le_of_ble_eq_true rfl) h3 ?_
  refine Ev.run (c' := (39, [.ref 1, .int x1, .int x2, .int x3, .int v1], [.int x3, .int v1], hp E w3)) hM_71 3 rfl ?_
  refine Ev.icF hM_71 rfl (cI_eqF c2) ?_
  refine Ev.run (c' := (43, [.ref 1, .int x1, .int x2, .int x3, .int v1], [.ref 1], hp E w3)) hM_71 1 rfl ?_
  refine Ev.callR hd hM_71 rfl (y := 93) (as := [.ref 1]) (rest := []) rfl (Nat.le_of_ble_eq_true rfl) h4 ?_
  refine Ev.run (c' := (56, [.ref 1, .int x1, .int x2, .int x3, .int v1], [.int (gF w4 0), .int x2, .int x1, .ref 5], hp E w4)) hM_71 6 rfl ?_
  rw [← a1] at h5
  refine Ev.callR hd hM_71 rfl (y := 33) (as := [.ref 5, .int x1, .int x2, .int (gF w4 0)]) (rest := []) rfl (Nat.le_of_ble_eq_true rfl) h5 ?_
  refine Ev.run (c' := (65, [.ref 1, .int x1, .int x2, .int x3, .int v1], [.int x2, .int x1, .ref 2], hp E w5)) hM_71 4 rfl ?_
  refine Ev.callR hd hM_71 rfl (y := 48) (as := [.ref 2, .int x1, .int x2]) (rest := []) rfl (Nat.le_of_ble_eq_true rfl) h6 ?_
  refine Ev.run (c' := (73, [.ref 1, .int x1, .int x2, .int x3, .int v1], [.ref 2, .ref 1], hp E w6)) hM_71 3 rfl ?_
  refine Ev.callR hd hM_71 rfl (y := 45) (as := [.ref 2]) (rest := [.ref 1]) rfl (Nat.le_of_ble_eq_true rfl) h7 ?_
  refine Ev.run (c' := (81, [.ref 1, .int x1, .int x2, .int x3, .int v1], [.int v1], hp E (sF 0 v2 w7))) hM_71 2 rfl ?_
  exact Ev.finZ hM_71 rfl rfl hb
theorem p71_e_f {E : Nat × (Nat → Int32)} {w : Wd} {d : Nat} {x1 x2 x3 : Int32} {w1 : Wd} {w2 : Wd} {w3 : Wd} {v1 : Int32} (hd : 1 ≤ d) (h1 : Ev (d - 1) 90 (ent0 90 [.ref 1, .int x1] (hp E w)) (.inl none, hp E w1)) (h2 : Ev (d - 1) 90 (ent0 90 [.ref 1, .int x2] (hp E w1)) (.inl none, hp E w2)) (c1 : ¬ x1 = x2) (h3 : Ev (d - 1) 47 (ent0 47 [.ref 2, .int x1, .int x2] (hp E w2)) (.inl (some (.int v1)), hp E w3)) (c2 : v1 = x3) (hb : v1 &&& 1 = v1) : Ev d 71 (ent0 71 [.ref 1, .int x1, .int x2, .int x3] (hp E w)) (.inl (some (.int v1)), hp E w3) := by
  refine Ev.run (c' := (2, [.ref 1, .int x1, .int x2, .int x3, jk], [.int x1, .ref 1], hp E w)) hM_71 2 rfl ?_
  refine Ev.callR hd hM_71 rfl (y := 90) (as := [.ref 1, .int x1]) (rest := []) rfl (Nat.le_of_ble_eq_true rfl) h1 ?_
  refine Ev.run (c' := (7, [.ref 1, .int x1, .int x2, .int x3, jk], [.int x2, .ref 1], hp E w1)) hM_71 2 rfl ?_
  refine Ev.callR hd hM_71 rfl (y := 90) (as := [.ref 1, .int x2]) (rest := []) rfl (Nat.le_of_ble_eq_true rfl) h2 ?_
  refine Ev.run (c' := (12, [.ref 1, .int x1, .int x2, .int x3, jk], [.int x2, .int x1], hp E w2)) hM_71 2 rfl ?_
  refine Ev.icT hM_71 rfl (cI_neT c1) ?_
  refine Ev.run (c' := (31, [.ref 1, .int x1, .int x2, .int x3, jk], [.int x2, .int x1, .ref 2], hp E w2)) hM_71 4 rfl ?_
  refine Ev.callR hd hM_71 rfl (y := 47) (as := [.ref 2, .int x1, .int x2]) (rest := []) rfl (Nat.le_of_ble_eq_true rfl) h3 ?_
  refine Ev.run (c' := (39, [.ref 1, .int x1, .int x2, .int x3, .int v1], [.int x3, .int v1], hp E w3)) hM_71 3 rfl ?_
  refine Ev.icT hM_71 rfl (cI_eqT c2) ?_
  refine Ev.run (c' := (81, [.ref 1, .int x1, .int x2, .int x3, .int v1], [.int v1], hp E w3)) hM_71 1 rfl ?_
  exact Ev.finZ hM_71 rfl rfl hb
theorem hM_72 : mAt 72 = some km_X7_shoot := rfl
theorem p72_e_a {E : Nat × (Nat → Int32)} {w : Wd} {d : Nat} {x1 : Int32} {w1 : Wd} (hd : 1 ≤ d) (h1 : Ev (d - 1) 90 (ent0 90 [.ref 1, .int x1] (hp E w)) (.inr 2, hp E w1)) : Ev d 72 (ent0 72 [.ref 1, .int x1] (hp E w)) (.inr 2, hp E w1) := by
  refine Ev.run (c' := (2, [.ref 1, .int x1], [.int x1, .ref 1], hp E w)) hM_72 2 rfl ?_
  refine Ev.passR hd hM_72 rfl (y := 90) (as := [.ref 1, .int x1]) (rest := []) rfl (Nat.le_of_ble_eq_true rfl) rfl rfl h1
theorem p72_e_b {E : Nat × (Nat → Int32)} {w : Wd} {d : Nat} {x1 : Int32} {w1 : Wd} {w' : Wd} (hd : 1 ≤ d) (h1 : Ev (d - 1) 90 (ent0 90 [.ref 1, .int x1] (hp E w)) (.inl none, hp E w1)) (c1 : (gF w1 0) = 0) (qw : (sT w1) = w') : Ev d 72 (ent0 72 [.ref 1, .int x1] (hp E w)) (.inr 1, hp E w') := by
  subst qw
  refine Ev.run (c' := (2, [.ref 1, .int x1], [.int x1, .ref 1], hp E w)) hM_72 2 rfl ?_
  refine Ev.callR hd hM_72 rfl (y := 90) (as := [.ref 1, .int x1]) (rest := []) rfl (Nat.le_of_ble_eq_true rfl) h1 ?_
  refine Ev.run (c' := (9, [.ref 1, .int x1], [.int (gF w1 0)], hp E w1)) hM_72 2 rfl ?_
  refine Ev.ifF hM_72 rfl (cI_neF c1) ?_
  exact Ev.fin hM_72 rfl rfl
theorem p72_e_c {E : Nat × (Nat → Int32)} {w : Wd} {d : Nat} {x1 : Int32} {w1 : Wd} {w2 : Wd} (hd : 1 ≤ d) (h1 : Ev (d - 1) 90 (ent0 90 [.ref 1, .int x1] (hp E w)) (.inl none, hp E w1)) (c1 : ¬ (gF w1 0) = 0) (h2 : Ev (d - 1) 93 (ent0 93 [.ref 1] (hp E w1)) (.inr 1, hp E w2)) : Ev d 72 (ent0 72 [.ref 1, .int x1] (hp E w)) (.inr 1, hp E w2) := by
  refine Ev.run (c' := (2, [.ref 1, .int x1], [.int x1, .ref 1], hp E w)) hM_72 2 rfl ?_
  refine Ev.callR hd hM_72 rfl (y := 90) (as := [.ref 1, .int x1]) (rest := []) rfl (Nat.le_of_ble_eq_true rfl) h1 ?_
  refine Ev.run (c' := (9, [.ref 1, .int x1], [.int (gF w1 0)], hp E w1)) hM_72 2 rfl ?_
  refine Ev.ifT hM_72 rfl (cI_neT c1) ?_
  refine Ev.run (c' := (23, [.ref 1, .int x1], [.ref 1], hp E w1)) hM_72 1 rfl ?_
  refine Ev.passR hd hM_72 rfl (y := 93) (as := [.ref 1]) (rest := []) rfl (Nat.le_of_ble_eq_true rfl) rfl rfl h2
theorem p72_e_d {E : Nat × (Nat → Int32)} {w : Wd} {d : Nat} {x1 : Int32} {w1 : Wd} {w2 : Wd} {z1 : Int32} {w3 : Wd} {z2 : Int32} {w4 : Wd} {v1 : Int32} {y : Int32} {w' : Wd} (hd : 1 ≤ d) (h1 : Ev (d - 1) 90 (ent0 90 [.ref 1, .int x1] (hp E w)) (.inl none, hp E w1)) (c1 : ¬ (gF w1 0) = 0) (h2 : Ev (d - 1) 93 (ent0 93 [.ref 1] (hp E w1)) (.inl none, hp E w2)) (a1 : (gF w2 0) = z1) (h3 : Ev (d - 1) 33 (ent0 33 [.ref 5, .int x1, .int (-1 : Int32), .int z1] (hp E w2)) (.inl none, hp E w3)) (a2 : (gF w3 0) = z2) (h4 : Ev (d - 1) 54 (ent0 54 [.ref 2, .int z2, .int x1] (hp E w3)) (.inl (some (.int v1)), hp E w4)) (q : (gF (sF 0 v1 w4) 0) = y) (qw : (sF 0 v1 w4) = w') : Ev d 72 (ent0 72 [.ref 1, .int x1] (hp E w)) (.inl (some (.int y)), hp E w') := by
  subst qw
  subst q
  refine Ev.run (c' := (2, [.ref 1, .int x1], [.int x1, .ref 1], hp E w)) hM_72 2 rfl ?_
  refine Ev.callR hd hM_72 rfl (y := 90) (as := [.ref 1, .int x1]) (rest := []) rfl (Nat.le_of_ble_eq_true rfl) h1 ?_
  refine Ev.run (c' := (9, [.ref 1, .int x1], [.int (gF w1 0)], hp E w1)) hM_72 2 rfl ?_
  refine Ev.ifT hM_72 rfl (cI_neT c1) ?_
  refine Ev.run (c' := (23, [.ref 1, .int x1], [.ref 1], hp E w1)) hM_72 1 rfl ?_
  refine Ev.callR hd hM_72 rfl (y := 93) (as := [.ref 1]) (rest := []) rfl (Nat.le_of_ble_eq_true rfl) h2 ?_
  refine Ev.run (c' := (36, [.ref 1, .int x1], [.int (gF w2 0), .int (-1 : Int32), .int x1, .ref 5], hp E w2)) hM_72 6 rfl ?_
  rw [← a1] at h3
  refine Ev.callR hd hM_72 rfl (y := 33) (as := [.ref 5, .int x1, .int (-1 : Int32), .int (gF w2 0)]) (rest := []) rfl (Nat.le_of_ble_eq_true rfl) h3 ?_
  refine Ev.run (c' := (49, [.ref 1, .int x1], [.int x1, .int (gF w3 0), .ref 2, .ref 1], hp E w3)) hM_72 6 rfl ?_
  rw [← a2] at h4
  refine Ev.callR hd hM_72 rfl (y := 54) (as := [.ref 2, .int (gF w3 0), .int x1]) (rest := [.ref 1]) rfl (Nat.le_of_ble_eq_true rfl) h4 ?_
  refine Ev.run (c' := (59, [.ref 1, .int x1], [.int (gF (sF 0 v1 w4) 0)], hp E (sF 0 v1 w4))) hM_72 3 rfl ?_
  exact Ev.fin hM_72 rfl rfl
theorem hM_73 : mAt 73 = some km_X7_back := rfl
theorem p73_e_a {E : Nat × (Nat → Int32)} {w : Wd} {d : Nat} {w' : Wd} (hd : 1 ≤ d) (c1 : (gF w 3) = 0) (qw : (sT w) = w') : Ev d 73 (ent0 73 [.ref 1] (hp E w)) (.inr 1, hp E w') := by
  subst qw
  refine Ev.run (c' := (4, [.ref 1, jk], [.ref 5], hp E w)) hM_73 2 rfl ?_
  refine Ev.callR hd hM_73 rfl (y := 31) (as := [.ref 5]) (rest := []) rfl (Nat.le_of_ble_eq_true rfl) (Ev.run (c' := (4, [.ref 5], [.int (gF w 3)], hp E w)) hM_31 2 rfl (Ev.fin hM_31 rfl rfl)) ?_
  refine Ev.run (c' := (7, [.ref 1, jk], [.int (gF w 3)], hp E w)) hM_73 0 rfl ?_
  refine Ev.ifF hM_73 rfl (cI_neF c1) ?_
  exact Ev.fin hM_73 rfl rfl
theorem p73_e_b {E : Nat × (Nat → Int32)} {w : Wd} {d : Nat} {w1 : Wd} {v1 : Int32} {w2 : Wd} {v2 : Int32} {w3 : Wd} {w4 : Wd} {v3 : Int32} {w5 : Wd} {y : Int32} (hd : 1 ≤ d) (c1 : ¬ (gF w 3) = 0) (h1 : Ev (d - 1) 35 (ent0 35 [.ref 5] (hp E w)) (.inl (some (.int v1)), hp E w1)) (c2 : ¬ v1 = (-1 : Int32)) (h2 : Ev (d - 1) 34 (ent0 34 [.ref 5] (hp E w1)) (.inl (some (.int v2)), hp E w2)) (h3 : Ev (d - 1) 48 (ent0 48 [.ref 2, .int v2, .int v1] (hp E w2)) (.inl none, hp E w3)) (h4 : Ev (d - 1) 36 (ent0 36 [.ref 5] (hp E w3)) (.inl (some (.int v3)), hp E w4)) (h5 : Ev (d - 1) 37 (ent0 37 [.ref 5] (hp E (sF 0 v3 w4))) (.inl none, hp E w5)) (q : (gF w5 3) = y) : Ev d 73 (ent0 73 [.ref 1] (hp E w)) (.inl (some (.int y)), hp E w5) := by
  subst q
  refine Ev.run (c' := (4, [.ref 1, jk], [.ref 5], hp E w)) hM_73 2 rfl ?_
  refine Ev.callR hd hM_73 rfl (y := 31) (as := [.ref 5]) (rest := []) rfl (Nat.le_of_ble_eq_true rfl) (Ev.run (c' := (4, [.ref 5], [.int (gF w 3)], hp E w)) hM_31 2 rfl (Ev.fin hM_31 rfl rfl)) ?_
  refine Ev.run (c' := (7, [.ref 1, jk], [.int (gF w 3)], hp E w)) hM_73 0 rfl ?_
  refine Ev.ifT hM_73 rfl (cI_neT c1) ?_
  refine Ev.run (c' := (24, [.ref 1, jk], [.ref 5], hp E w)) hM_73 2 rfl ?_
  refine Ev.callR hd hM_73 rfl (y := 35) (as := [.ref 5]) (rest := []) rfl (Nat.le_of_ble_eq_true rfl) h1 ?_
  refine Ev.run (c' := (30, [.ref 1, .int v1], [.int (-1 : Int32), .int v1], hp E w1)) hM_73 3 rfl ?_
  refine Ev.icF hM_73 rfl (cI_eqF c2) ?_
  refine Ev.run (c' := (41, [.ref 1, .int v1], [.ref 5, .ref 2], hp E w1)) hM_73 4 rfl ?_
  refine Ev.callR hd hM_73 rfl (y := 34) (as := [.ref 5]) (rest := [.ref 2]) rfl (Nat.le_of_ble_eq_true rfl) h2 ?_
  refine Ev.run (c' := (45, [.ref 1, .int v1], [.int v1, .int v2, .ref 2], hp E w2)) hM_73 1 rfl ?_
  refine Ev.callR hd hM_73 rfl (y := 48) (as := [.ref 2, .int v2, .int v1]) (rest := []) rfl (Nat.le_of_ble_eq_true rfl) h3 ?_
  refine Ev.run (c' := (53, [.ref 1, .int v1], [.ref 5, .ref 1], hp E w3)) hM_73 3 rfl ?_
  refine Ev.callR hd hM_73 rfl (y := 36) (as := [.ref 5]) (rest := [.ref 1]) rfl (Nat.le_of_ble_eq_true rfl) h4 ?_
  refine Ev.run (c' := (63, [.ref 1, .int v1], [.ref 5], hp E (sF 0 v3 w4))) hM_73 3 rfl ?_
  refine Ev.callR hd hM_73 rfl (y := 37) (as := [.ref 5]) (rest := []) rfl (Nat.le_of_ble_eq_true rfl) h5 ?_
  refine Ev.run (c' := (70, [.ref 1, .int v1], [.ref 5], hp E w5)) hM_73 2 rfl ?_
  refine Ev.callR hd hM_73 rfl (y := 31) (as := [.ref 5]) (rest := []) rfl (Nat.le_of_ble_eq_true rfl) (Ev.run (c' := (4, [.ref 5], [.int (gF w5 3)], hp E w5)) hM_31 2 rfl (Ev.fin hM_31 rfl rfl)) ?_
  refine Ev.run (c' := (73, [.ref 1, .int v1], [.int (gF w5 3)], hp E w5)) hM_73 0 rfl ?_
  exact Ev.fin hM_73 rfl rfl
theorem p73_e_c {E : Nat × (Nat → Int32)} {w : Wd} {d : Nat} {w1 : Wd} {v1 : Int32} {w2 : Wd} {v2 : Int32} {w3 : Wd} {y : Int32} (hd : 1 ≤ d) (c1 : ¬ (gF w 3) = 0) (h1 : Ev (d - 1) 35 (ent0 35 [.ref 5] (hp E w)) (.inl (some (.int v1)), hp E w1)) (c2 : v1 = (-1 : Int32)) (h2 : Ev (d - 1) 36 (ent0 36 [.ref 5] (hp E w1)) (.inl (some (.int v2)), hp E w2)) (h3 : Ev (d - 1) 37 (ent0 37 [.ref 5] (hp E (sF 0 v2 w2))) (.inl none, hp E w3)) (q : (gF w3 3) = y) : Ev d 73 (ent0 73 [.ref 1] (hp E w)) (.inl (some (.int y)), hp E w3) := by
  subst q
  refine Ev.run (c' := (4, [.ref 1, jk], [.ref 5], hp E w)) hM_73 2 rfl ?_
  refine Ev.callR hd hM_73 rfl (y := 31) (as := [.ref 5]) (rest := []) rfl (Nat.le_of_ble_eq_true rfl) (Ev.run (c' := (4, [.ref 5], [.int (gF w 3)], hp E w)) hM_31 2 rfl (Ev.fin hM_31 rfl rfl)) ?_
  refine Ev.run (c' := (7, [.ref 1, jk], [.int (gF w 3)], hp E w)) hM_73 0 rfl ?_
  refine Ev.ifT hM_73 rfl (cI_neT c1) ?_
  refine Ev.run (c' := (24, [.ref 1, jk], [.ref 5], hp E w)) hM_73 2 rfl ?_
  refine Ev.callR hd hM_73 rfl (y := 35) (as := [.ref 5]) (rest := []) rfl (Nat.le_of_ble_eq_true rfl) h1 ?_
  refine Ev.run (c' := (30, [.ref 1, .int v1], [.int (-1 : Int32), .int v1], hp E w1)) hM_73 3 rfl ?_
  refine Ev.icT hM_73 rfl (cI_eqT c2) ?_
  refine Ev.run (c' := (53, [.ref 1, .int v1], [.ref 5, .ref 1], hp E w1)) hM_73 3 rfl ?_
  refine Ev.callR hd hM_73 rfl (y := 36) (as := [.ref 5]) (rest := [.ref 1]) rfl (Nat.le_of_ble_eq_true rfl) h2 ?_
  refine Ev.run (c' := (63, [.ref 1, .int v1], [.ref 5], hp E (sF 0 v2 w2))) hM_73 3 rfl ?_
  refine Ev.callR hd hM_73 rfl (y := 37) (as := [.ref 5]) (rest := []) rfl (Nat.le_of_ble_eq_true rfl) h3 ?_
  refine Ev.run (c' := (70, [.ref 1, .int v1], [.ref 5], hp E w3)) hM_73 2 rfl ?_
  refine Ev.callR hd hM_73 rfl (y := 31) (as := [.ref 5]) (rest := []) rfl (Nat.le_of_ble_eq_true rfl) (Ev.run (c' := (4, [.ref 5], [.int (gF w3 3)], hp E w3)) hM_31 2 rfl (Ev.fin hM_31 rfl rfl)) ?_
  refine Ev.run (c' := (73, [.ref 1, .int v1], [.int (gF w3 3)], hp E w3)) hM_73 0 rfl ?_
  exact Ev.fin hM_73 rfl rfl
theorem hM_74 : mAt 74 = some km_X7_doors := rfl
theorem p74_e_a {E : Nat × (Nat → Int32)} {w : Wd} {d : Nat} {w1 : Wd} {v1 : Int32} (hd : 1 ≤ d) (h1 : Ev (d - 1) 49 (ent0 49 [.ref 2] (hp E w)) (.inl (some (.int v1)), hp E w1)) : Ev d 74 (ent0 74 [.ref 1] (hp E w)) (.inl (some (.int v1)), hp E w1) := by
  refine Ev.run (c' := (4, [.ref 1], [.ref 2], hp E w)) hM_74 2 rfl ?_
  refine Ev.callR hd hM_74 rfl (y := 49) (as := [.ref 2]) (rest := []) rfl (Nat.le_of_ble_eq_true rfl) h1 ?_
  refine Ev.run (c' := (7, [.ref 1], [.int v1], hp E w1)) hM_74 0 rfl ?_
  exact Ev.fin hM_74 rfl rfl
theorem hM_75 : mAt 75 = some km_X7_next := rfl
theorem p75_e_a {E : Nat × (Nat → Int32)} {w : Wd} {d : Nat} {x1 : Int32} {w1 : Wd} (hd : 1 ≤ d) (h1 : Ev (d - 1) 90 (ent0 90 [.ref 1, .int x1] (hp E w)) (.inr 2, hp E w1)) : Ev d 75 (ent0 75 [.ref 1, .int x1] (hp E w)) (.inr 2, hp E w1) := by
  refine Ev.run (c' := (2, [.ref 1, .int x1], [.int x1, .ref 1], hp E w)) hM_75 2 rfl ?_
  refine Ev.passR hd hM_75 rfl (y := 90) (as := [.ref 1, .int x1]) (rest := []) rfl (Nat.le_of_ble_eq_true rfl) rfl rfl h1
theorem p75_e_b {E : Nat × (Nat → Int32)} {w : Wd} {d : Nat} {x1 : Int32} {w1 : Wd} {j1 : Nat} {y : Int32} (hd2 : 2 ≤ d) (h1 : Ev (d - 1) 90 (ent0 90 [.ref 1, .int x1] (hp E w)) (.inl none, hp E w1)) (g1 : x1 = I j1) (b1 : j1 < 2147483648) (q : (rv 9 (gA w1 0) j1) = y) : Ev d 75 (ent0 75 [.ref 1, .int x1] (hp E w)) (.inl (some (.int y)), hp E w1) := by
  have hd : 1 ≤ d := Nat.le_trans (by decide) hd2
  subst q
  refine Ev.run (c' := (2, [.ref 1, .int x1], [.int x1, .ref 1], hp E w)) hM_75 2 rfl ?_
  refine Ev.callR hd hM_75 rfl (y := 90) (as := [.ref 1, .int x1]) (rest := []) rfl (Nat.le_of_ble_eq_true rfl) h1 ?_
  refine Ev.run (c' := (10, [.ref 1, .int x1], [.int x1, .ref 2], hp E w1)) hM_75 3 rfl ?_
  subst g1
  refine Ev.callR hd hM_75 rfl (y := 46) (as := [.ref 2, .int (I j1)]) (rest := []) rfl (Nat.le_of_ble_eq_true rfl) (nextTo_spec hd2 b1) ?_
  refine Ev.run (c' := (13, [.ref 1, .int (I j1)], [.int (rv 9 (gA w1 0) j1)], hp E w1)) hM_75 0 rfl ?_
  exact Ev.fin hM_75 rfl rfl
theorem hM_76 : mAt 76 = some km_X7_time := rfl
theorem p76_e_a {E : Nat × (Nat → Int32)} {w : Wd} {d : Nat} {x1 x2 x3 : Int32} {w1 : Wd} (hd : 1 ≤ d) (h1 : Ev (d - 1) 91 (ent0 91 [.ref 1, .int x1, .int x2, .int x3] (hp E w)) (.inr 2, hp E w1)) : Ev d 76 (ent0 76 [.ref 1, .int x1, .int x2, .int x3] (hp E w)) (.inr 2, hp E w1) := by
  refine Ev.run (c' := (4, [.ref 1, .int x1, .int x2, .int x3], [.int x3, .int x2, .int x1, .ref 1], hp E w)) hM_76 4 rfl ?_
  refine Ev.passR hd hM_76 rfl (y := 91) (as := [.ref 1, .int x1, .int x2, .int x3]) (rest := []) rfl (Nat.le_of_ble_eq_true rfl) rfl rfl h1
theorem p76_e_b {E : Nat × (Nat → Int32)} {w : Wd} {d : Nat} {x1 x2 x3 : Int32} {w1 : Wd} {w2 : Wd} {w3 : Wd} {v1 : Int32} {w4 : Wd} {v2 : Int32} (hd : 1 ≤ d) (h1 : Ev (d - 1) 91 (ent0 91 [.ref 1, .int x1, .int x2, .int x3] (hp E w)) (.inl none, hp E w1)) (h2 : Ev (d - 1) 7 (ent0 7 [.ref 12, .ref 2] (hp E w1)) (.inl none, hp E w2)) (h3 : Ev (d - 1) 94 (ent0 94 [.int x2] (hp E w2)) (.inl (some (.int v1)), hp E w3)) (h4 : Ev (d - 1) 16 (ent0 16 [.ref 12, .int x1, .int v1, .int x3] (hp E w3)) (.inl (some (.int v2)), hp E w4)) : Ev d 76 (ent0 76 [.ref 1, .int x1, .int x2, .int x3] (hp E w)) (.inl (some (.int v2)), hp E w4) := by
  refine Ev.run (c' := (4, [.ref 1, .int x1, .int x2, .int x3], [.int x3, .int x2, .int x1, .ref 1], hp E w)) hM_76 4 rfl ?_
  refine Ev.callR hd hM_76 rfl (y := 91) (as := [.ref 1, .int x1, .int x2, .int x3]) (rest := []) rfl (Nat.le_of_ble_eq_true rfl) h1 ?_
  refine Ev.run (c' := (15, [.ref 1, .int x1, .int x2, .int x3], [.ref 2, .ref 12], hp E w1)) hM_76 4 rfl ?_
  refine Ev.callR hd hM_76 rfl (y := 7) (as := [.ref 12, .ref 2]) (rest := []) rfl (Nat.le_of_ble_eq_true rfl) h2 ?_
  refine Ev.run (c' := (24, [.ref 1, .int x1, .int x2, .int x3], [.int x2, .int x1, .ref 12], hp E w2)) hM_76 4 rfl ?_
  refine Ev.callR hd hM_76 rfl (y := 94) (as := [.int x2]) (rest := [.int x1, .ref 12]) rfl (Nat.le_of_ble_eq_true rfl) h3 ?_
  refine Ev.run (c' := (28, [.ref 1, .int x1, .int x2, .int x3], [.int x3, .int v1, .int x1, .ref 12], hp E w3)) hM_76 1 rfl ?_
  refine Ev.callR hd hM_76 rfl (y := 16) (as := [.ref 12, .int x1, .int v1, .int x3]) (rest := []) rfl (Nat.le_of_ble_eq_true rfl) h4 ?_
  refine Ev.run (c' := (31, [.ref 1, .int x1, .int x2, .int x3], [.int v2], hp E w4)) hM_76 0 rfl ?_
  exact Ev.fin hM_76 rfl rfl
theorem hM_77 : mAt 77 = some km_X7_timeAnew := rfl
theorem p77_e_a {E : Nat × (Nat → Int32)} {w : Wd} {d : Nat} {x1 x2 x3 x4 : Int32} {w1 : Wd} (hd : 1 ≤ d) (h1 : Ev (d - 1) 91 (ent0 91 [.ref 1, .int x1, .int x2, .int x3] (hp E w)) (.inr 2, hp E w1)) : Ev d 77 (ent0 77 [.ref 1, .int x1, .int x2, .int x3, .int x4] (hp E w)) (.inr 2, hp E w1) := by
  refine Ev.run (c' := (4, [.ref 1, .int x1, .int x2, .int x3, .int x4], [.int x3, .int x2, .int x1, .ref 1], hp E w)) hM_77 4 rfl ?_
  refine Ev.passR hd hM_77 rfl (y := 91) (as := [.ref 1, .int x1, .int x2, .int x3]) (rest := []) rfl (Nat.le_of_ble_eq_true rfl) rfl rfl h1
theorem p77_e_b {E : Nat × (Nat → Int32)} {w : Wd} {d : Nat} {x1 x2 x3 x4 : Int32} {w1 : Wd} {w' : Wd} (hd : 1 ≤ d) (h1 : Ev (d - 1) 91 (ent0 91 [.ref 1, .int x1, .int x2, .int x3] (hp E w)) (.inl none, hp E w1)) (c1 : ¬ x4 < 0) (c2 : (3 : Int32) < x4) (qw : (sT w1) = w') : Ev d 77 (ent0 77 [.ref 1, .int x1, .int x2, .int x3, .int x4] (hp E w)) (.inr 0, hp E w') := by
  subst qw
  refine Ev.run (c' := (4, [.ref 1, .int x1, .int x2, .int x3, .int x4], [.int x3, .int x2, .int x1, .ref 1], hp E w)) hM_77 4 rfl ?_
  refine Ev.callR hd hM_77 rfl (y := 91) (as := [.ref 1, .int x1, .int x2, .int x3]) (rest := []) rfl (Nat.le_of_ble_eq_true rfl) h1 ?_
  refine Ev.run (c' := (9, [.ref 1, .int x1, .int x2, .int x3, .int x4], [.int x4], hp E w1)) hM_77 1 rfl ?_
  refine Ev.ifF hM_77 rfl (cI_ltF c1) ?_
  refine Ev.run (c' := (15, [.ref 1, .int x1, .int x2, .int x3, .int x4], [.int (3 : Int32), .int x4], hp E w1)) hM_77 2 rfl ?_
  refine Ev.icF hM_77 rfl (cI_leF c2) ?_
  exact Ev.fin hM_77 rfl rfl
theorem p77_e_c {E : Nat × (Nat → Int32)} {w : Wd} {d : Nat} {x1 x2 x3 x4 : Int32} {w1 : Wd} {w2 : Wd} {v1 : Int32} {w3 : Wd} {v2 : Int32} (hd : 1 ≤ d) (h1 : Ev (d - 1) 91 (ent0 91 [.ref 1, .int x1, .int x2, .int x3] (hp E w)) (.inl none, hp E w1)) (c1 : ¬ x4 < 0) (c2 : ¬ (3 : Int32) < x4) (h2 : Ev (d - 1) 94 (ent0 94 [.int x2] (hp E w1)) (.inl (some (.int v1)), hp E w2)) (h3 : Ev (d - 1) 58 (ent0 58 [.ref 2, .int x1, .int v1, .int x3, .int x4] (hp E w2)) (.inl (some (.int v2)), hp E w3)) : Ev d 77 (ent0 77 [.ref 1, .int x1, .int x2, .int x3, .int x4] (hp E w)) (.inl (some (.int v2)), hp E w3) := by
  refine Ev.run (c' := (4, [.ref 1, .int x1, .int x2, .int x3, .int x4], [.int x3, .int x2, .int x1, .ref 1], hp E w)) hM_77 4 rfl ?_
  refine Ev.callR hd hM_77 rfl (y := 91) (as := [.ref 1, .int x1, .int x2, .int x3]) (rest := []) rfl (Nat.le_of_ble_eq_true rfl) h1 ?_
  refine Ev.run (c' := (9, [.ref 1, .int x1, .int x2, .int x3, .int x4], [.int x4], hp E w1)) hM_77 1 rfl ?_
  refine Ev.ifF hM_77 rfl (cI_ltF c1) ?_
  refine Ev.run (c' := (15, [.ref 1, .int x1, .int x2, .int x3, .int x4], [.int (3 : Int32), .int x4], hp E w1)) hM_77 2 rfl ?_
  refine Ev.icT hM_77 rfl (cI_leT c2) ?_
  refine Ev.run (c' := (34, [.ref 1, .int x1, .int x2, .int x3, .int x4], [.int x2, .int x1, .ref 2], hp E w1)) hM_77 4 rfl ?_
  refine Ev.callR hd hM_77 rfl (y := 94) (as := [.int x2]) (rest := [.int x1, .ref 2]) rfl (Nat.le_of_ble_eq_true rfl) h2 ?_
  refine Ev.run (c' := (40, [.ref 1, .int x1, .int x2, .int x3, .int x4], [.int x4, .int x3, .int v1, .int x1, .ref 2], hp E w2)) hM_77 2 rfl ?_
  refine Ev.callR hd hM_77 rfl (y := 58) (as := [.ref 2, .int x1, .int v1, .int x3, .int x4]) (rest := []) rfl (Nat.le_of_ble_eq_true rfl) h3 ?_
  refine Ev.run (c' := (43, [.ref 1, .int x1, .int x2, .int x3, .int x4], [.int v2], hp E w3)) hM_77 0 rfl ?_
  exact Ev.fin hM_77 rfl rfl
theorem p77_e_d {E : Nat × (Nat → Int32)} {w : Wd} {d : Nat} {x1 x2 x3 x4 : Int32} {w1 : Wd} {w' : Wd} (hd : 1 ≤ d) (h1 : Ev (d - 1) 91 (ent0 91 [.ref 1, .int x1, .int x2, .int x3] (hp E w)) (.inl none, hp E w1)) (c1 : x4 < 0) (qw : (sT w1) = w') : Ev d 77 (ent0 77 [.ref 1, .int x1, .int x2, .int x3, .int x4] (hp E w)) (.inr 0, hp E w') := by
  subst qw
  refine Ev.run (c' := (4, [.ref 1, .int x1, .int x2, .int x3, .int x4], [.int x3, .int x2, .int x1, .ref 1], hp E w)) hM_77 4 rfl ?_
  refine Ev.callR hd hM_77 rfl (y := 91) (as := [.ref 1, .int x1, .int x2, .int x3]) (rest := []) rfl (Nat.le_of_ble_eq_true rfl) h1 ?_
  refine Ev.run (c' := (9, [.ref 1, .int x1, .int x2, .int x3, .int x4], [.int x4], hp E w1)) hM_77 1 rfl ?_
  refine Ev.ifT hM_77 rfl (cI_ltT c1) ?_
  exact Ev.fin hM_77 rfl rfl
theorem hM_78 : mAt 78 = some km_X7_step := rfl
theorem p78_e_a {E : Nat × (Nat → Int32)} {w : Wd} {d : Nat} {x1 x2 x3 : Int32} {w1 : Wd} (hd : 1 ≤ d) (h1 : Ev (d - 1) 91 (ent0 91 [.ref 1, .int x1, .int x2, .int x3] (hp E w)) (.inr 2, hp E w1)) : Ev d 78 (ent0 78 [.ref 1, .int x1, .int x2, .int x3] (hp E w)) (.inr 2, hp E w1) := by
  refine Ev.run (c' := (4, [.ref 1, .int x1, .int x2, .int x3], [.int x3, .int x2, .int x1, .ref 1], hp E w)) hM_78 4 rfl ?_
  refine Ev.passR hd hM_78 rfl (y := 91) (as := [.ref 1, .int x1, .int x2, .int x3]) (rest := []) rfl (Nat.le_of_ble_eq_true rfl) rfl rfl h1
theorem p78_e_b {E : Nat × (Nat → Int32)} {w : Wd} {d : Nat} {x1 x2 x3 : Int32} {w1 : Wd} {w2 : Wd} {w3 : Wd} {v1 : Int32} {w4 : Wd} {v2 : Int32} (hd : 1 ≤ d) (h1 : Ev (d - 1) 91 (ent0 91 [.ref 1, .int x1, .int x2, .int x3] (hp E w)) (.inl none, hp E w1)) (h2 : Ev (d - 1) 7 (ent0 7 [.ref 12, .ref 2] (hp E w1)) (.inl none, hp E w2)) (h3 : Ev (d - 1) 94 (ent0 94 [.int x2] (hp E w2)) (.inl (some (.int v1)), hp E w3)) (h4 : Ev (d - 1) 18 (ent0 18 [.ref 12, .ref 2, .int x1, .int v1, .int x3] (hp E w3)) (.inl (some (.int v2)), hp E w4)) : Ev d 78 (ent0 78 [.ref 1, .int x1, .int x2, .int x3] (hp E w)) (.inl (some (.int v2)), hp E w4) := by
  refine Ev.run (c' := (4, [.ref 1, .int x1, .int x2, .int x3], [.int x3, .int x2, .int x1, .ref 1], hp E w)) hM_78 4 rfl ?_
  refine Ev.callR hd hM_78 rfl (y := 91) (as := [.ref 1, .int x1, .int x2, .int x3]) (rest := []) rfl (Nat.le_of_ble_eq_true rfl) h1 ?_
  refine Ev.run (c' := (15, [.ref 1, .int x1, .int x2, .int x3], [.ref 2, .ref 12], hp E w1)) hM_78 4 rfl ?_
  refine Ev.callR hd hM_78 rfl (y := 7) (as := [.ref 12, .ref 2]) (rest := []) rfl (Nat.le_of_ble_eq_true rfl) h2 ?_
  refine Ev.run (c' := (28, [.ref 1, .int x1, .int x2, .int x3], [.int x2, .int x1, .ref 2, .ref 12], hp E w2)) hM_78 6 rfl ?_
  refine Ev.callR hd hM_78 rfl (y := 94) (as := [.int x2]) (rest := [.int x1, .ref 2, .ref 12]) rfl (Nat.le_of_ble_eq_true rfl) h3 ?_
  refine Ev.run (c' := (32, [.ref 1, .int x1, .int x2, .int x3], [.int x3, .int v1, .int x1, .ref 2, .ref 12], hp E w3)) hM_78 1 rfl ?_
  refine Ev.callR hd hM_78 rfl (y := 18) (as := [.ref 12, .ref 2, .int x1, .int v1, .int x3]) (rest := []) rfl (Nat.le_of_ble_eq_true rfl) h4 ?_
  refine Ev.run (c' := (35, [.ref 1, .int x1, .int x2, .int x3], [.int v2], hp E w4)) hM_78 0 rfl ?_
  exact Ev.fin hM_78 rfl rfl
theorem hM_79 : mAt 79 = some km_X7_away := rfl
theorem p79_e_a {E : Nat × (Nat → Int32)} {w : Wd} {d : Nat} {x1 x2 x3 : Int32} {w1 : Wd} (hd : 1 ≤ d) (h1 : Ev (d - 1) 91 (ent0 91 [.ref 1, .int x1, .int x2, .int x3] (hp E w)) (.inr 2, hp E w1)) : Ev d 79 (ent0 79 [.ref 1, .int x1, .int x2, .int x3] (hp E w)) (.inr 2, hp E w1) := by
  refine Ev.run (c' := (4, [.ref 1, .int x1, .int x2, .int x3], [.int x3, .int x2, .int x1, .ref 1], hp E w)) hM_79 4 rfl ?_
  refine Ev.passR hd hM_79 rfl (y := 91) (as := [.ref 1, .int x1, .int x2, .int x3]) (rest := []) rfl (Nat.le_of_ble_eq_true rfl) rfl rfl h1
theorem p79_e_b {E : Nat × (Nat → Int32)} {w : Wd} {d : Nat} {x1 x2 x3 : Int32} {w1 : Wd} {w2 : Wd} {w3 : Wd} {v1 : Int32} {w4 : Wd} {v2 : Int32} (hd : 1 ≤ d) (h1 : Ev (d - 1) 91 (ent0 91 [.ref 1, .int x1, .int x2, .int x3] (hp E w)) (.inl none, hp E w1)) (h2 : Ev (d - 1) 7 (ent0 7 [.ref 12, .ref 2] (hp E w1)) (.inl none, hp E w2)) (h3 : Ev (d - 1) 94 (ent0 94 [.int x2] (hp E w2)) (.inl (some (.int v1)), hp E w3)) (h4 : Ev (d - 1) 20 (ent0 20 [.ref 12, .ref 2, .int x1, .int v1, .int x3] (hp E w3)) (.inl (some (.int v2)), hp E w4)) : Ev d 79 (ent0 79 [.ref 1, .int x1, .int x2, .int x3] (hp E w)) (.inl (some (.int v2)), hp E w4) := by
  refine Ev.run (c' := (4, [.ref 1, .int x1, .int x2, .int x3], [.int x3, .int x2, .int x1, .ref 1], hp E w)) hM_79 4 rfl ?_
  refine Ev.callR hd hM_79 rfl (y := 91) (as := [.ref 1, .int x1, .int x2, .int x3]) (rest := []) rfl (Nat.le_of_ble_eq_true rfl) h1 ?_
  refine Ev.run (c' := (15, [.ref 1, .int x1, .int x2, .int x3], [.ref 2, .ref 12], hp E w1)) hM_79 4 rfl ?_
  refine Ev.callR hd hM_79 rfl (y := 7) (as := [.ref 12, .ref 2]) (rest := []) rfl (Nat.le_of_ble_eq_true rfl) h2 ?_
  refine Ev.run (c' := (28, [.ref 1, .int x1, .int x2, .int x3], [.int x2, .int x1, .ref 2, .ref 12], hp E w2)) hM_79 6 rfl ?_
  refine Ev.callR hd hM_79 rfl (y := 94) (as := [.int x2]) (rest := [.int x1, .ref 2, .ref 12]) rfl (Nat.le_of_ble_eq_true rfl) h3 ?_
  refine Ev.run (c' := (32, [.ref 1, .int x1, .int x2, .int x3], [.int x3, .int v1, .int x1, .ref 2, .ref 12], hp E w3)) hM_79 1 rfl ?_
  refine Ev.callR hd hM_79 rfl (y := 20) (as := [.ref 12, .ref 2, .int x1, .int v1, .int x3]) (rest := []) rfl (Nat.le_of_ble_eq_true rfl) h4 ?_
  refine Ev.run (c' := (35, [.ref 1, .int x1, .int x2, .int x3], [.int v2], hp E w4)) hM_79 0 rfl ?_
  exact Ev.fin hM_79 rfl rfl
theorem hM_80 : mAt 80 = some km_X7_catches := rfl
theorem p80_e_a {E : Nat × (Nat → Int32)} {w : Wd} {d : Nat} {x1 : Int32} {w' : Wd} (c1 : ¬ x1 < (1 : Int32)) (c2 : (2 : Int32) < x1) (qw : (sT w) = w') : Ev d 80 (ent0 80 [.ref 1, .int x1] (hp E w)) (.inr 0, hp E w') := by
  subst qw
  refine Ev.run (c' := (2, [.ref 1, .int x1], [.int (1 : Int32), .int x1], hp E w)) hM_80 2 rfl ?_
  refine Ev.icF hM_80 rfl (cI_ltF c1) ?_
  refine Ev.run (c' := (7, [.ref 1, .int x1], [.int (2 : Int32), .int x1], hp E w)) hM_80 2 rfl ?_
  refine Ev.icF hM_80 rfl (cI_leF c2) ?_
  exact Ev.fin hM_80 rfl rfl
theorem p80_e_b {E : Nat × (Nat → Int32)} {w : Wd} {d : Nat} {x1 : Int32} {w1 : Wd} {w2 : Wd} {v1 : Int32} (hd : 1 ≤ d) (c1 : ¬ x1 < (1 : Int32)) (c2 : ¬ (2 : Int32) < x1) (h1 : Ev (d - 1) 7 (ent0 7 [.ref 12, .ref 2] (hp E w)) (.inl none, hp E w1)) (c3 : x1 = (1 : Int32)) (h2 : Ev (d - 1) 21 (ent0 21 [.ref 12, .ref 2] (hp E w1)) (.inl (some (.int v1)), hp E w2)) (hb : v1 &&& 1 = v1) : Ev d 80 (ent0 80 [.ref 1, .int x1] (hp E w)) (.inl (some (.int v1)), hp E w2) := by
  refine Ev.run (c' := (2, [.ref 1, .int x1], [.int (1 : Int32), .int x1], hp E w)) hM_80 2 rfl ?_
  refine Ev.icF hM_80 rfl (cI_ltF c1) ?_
  refine Ev.run (c' := (7, [.ref 1, .int x1], [.int (2 : Int32), .int x1], hp E w)) hM_80 2 rfl ?_
  refine Ev.icT hM_80 rfl (cI_leT c2) ?_
  refine Ev.run (c' := (28, [.ref 1, .int x1], [.ref 2, .ref 12], hp E w)) hM_80 4 rfl ?_
  refine Ev.callR hd hM_80 rfl (y := 7) (as := [.ref 12, .ref 2]) (rest := []) rfl (Nat.le_of_ble_eq_true rfl) h1 ?_
  refine Ev.run (c' := (33, [.ref 1, .int x1], [.int (1 : Int32), .int x1], hp E w1)) hM_80 2 rfl ?_
  refine Ev.icF hM_80 rfl (cI_neF c3) ?_
  refine Ev.run (c' := (44, [.ref 1, .int x1], [.ref 2, .ref 12], hp E w1)) hM_80 4 rfl ?_
  refine Ev.callR hd hM_80 rfl (y := 21) (as := [.ref 12, .ref 2]) (rest := []) rfl (Nat.le_of_ble_eq_true rfl) h2 ?_
  refine Ev.run (c' := (61, [.ref 1, .int x1], [.int v1], hp E w2)) hM_80 1 rfl ?_
  exact Ev.finZ hM_80 rfl rfl hb
theorem p80_e_c {E : Nat × (Nat → Int32)} {w : Wd} {d : Nat} {x1 : Int32} {w1 : Wd} {w2 : Wd} {v1 : Int32} (hd : 1 ≤ d) (c1 : ¬ x1 < (1 : Int32)) (c2 : ¬ (2 : Int32) < x1) (h1 : Ev (d - 1) 7 (ent0 7 [.ref 12, .ref 2] (hp E w)) (.inl none, hp E w1)) (c3 : ¬ x1 = (1 : Int32)) (h2 : Ev (d - 1) 22 (ent0 22 [.ref 12, .ref 2] (hp E w1)) (.inl (some (.int v1)), hp E w2)) (hb : v1 &&& 1 = v1) : Ev d 80 (ent0 80 [.ref 1, .int x1] (hp E w)) (.inl (some (.int v1)), hp E w2) := by
  refine Ev.run (c' := (2, [.ref 1, .int x1], [.int (1 : Int32), .int x1], hp E w)) hM_80 2 rfl ?_
  refine Ev.icF hM_80 rfl (cI_ltF c1) ?_
  refine Ev.run (c' := (7, [.ref 1, .int x1], [.int (2 : Int32), .int x1], hp E w)) hM_80 2 rfl ?_
  refine Ev.icT hM_80 rfl (cI_leT c2) ?_
  refine Ev.run (c' := (28, [.ref 1, .int x1], [.ref 2, .ref 12], hp E w)) hM_80 4 rfl ?_
  refine Ev.callR hd hM_80 rfl (y := 7) (as := [.ref 12, .ref 2]) (rest := []) rfl (Nat.le_of_ble_eq_true rfl) h1 ?_
  refine Ev.run (c' := (33, [.ref 1, .int x1], [.int (1 : Int32), .int x1], hp E w1)) hM_80 2 rfl ?_
  refine Ev.icT hM_80 rfl (cI_neT c3) ?_
  refine Ev.run (c' := (58, [.ref 1, .int x1], [.ref 2, .ref 12], hp E w1)) hM_80 4 rfl ?_
  refine Ev.callR hd hM_80 rfl (y := 22) (as := [.ref 12, .ref 2]) (rest := []) rfl (Nat.le_of_ble_eq_true rfl) h2 ?_
  refine Ev.run (c' := (61, [.ref 1, .int x1], [.int v1], hp E w2)) hM_80 0 rfl ?_
  exact Ev.finZ hM_80 rfl rfl hb
theorem p80_e_d {E : Nat × (Nat → Int32)} {w : Wd} {d : Nat} {x1 : Int32} {w' : Wd} (c1 : x1 < (1 : Int32)) (qw : (sT w) = w') : Ev d 80 (ent0 80 [.ref 1, .int x1] (hp E w)) (.inr 0, hp E w') := by
  subst qw
  refine Ev.run (c' := (2, [.ref 1, .int x1], [.int (1 : Int32), .int x1], hp E w)) hM_80 2 rfl ?_
  refine Ev.icT hM_80 rfl (cI_ltT c1) ?_
  exact Ev.fin hM_80 rfl rfl
theorem hM_81 : mAt 81 = some km_X7_fallsApart := rfl
theorem p81_e_a {E : Nat × (Nat → Int32)} {w : Wd} {d : Nat} {w1 : Wd} {v1 : Int32} (hd : 1 ≤ d) (h1 : Ev (d - 1) 55 (ent0 55 [.ref 2] (hp E w)) (.inl (some (.int v1)), hp E w1)) (hb : v1 &&& 1 = v1) : Ev d 81 (ent0 81 [.ref 1] (hp E w)) (.inl (some (.int v1)), hp E w1) := by
  refine Ev.run (c' := (4, [.ref 1], [.ref 2], hp E w)) hM_81 2 rfl ?_
  refine Ev.callR hd hM_81 rfl (y := 55) (as := [.ref 2]) (rest := []) rfl (Nat.le_of_ble_eq_true rfl) h1 ?_
  refine Ev.run (c' := (7, [.ref 1], [.int v1], hp E w1)) hM_81 0 rfl ?_
  exact Ev.finZ hM_81 rfl rfl hb
theorem hM_83 : mAt 83 = some km_X7_hunt := rfl
theorem p83_e_a {E : Nat × (Nat → Int32)} {w : Wd} {d : Nat} {w1 : Wd} {z1 : Int32} {w2 : Wd} {v1 : Int32} (hd : 1 ≤ d) (h1 : Ev (d - 1) 1 (ent0 1 [.ref 21, .ref 2] (hp E w)) (.inl none, hp E w1)) (a1 : (gF w1 0) = z1) (h2 : Ev (d - 1) 4 (ent0 4 [.ref 21, .int z1] (hp E w1)) (.inl (some (.int v1)), hp E w2)) : Ev d 83 (ent0 83 [.ref 1] (hp E w)) (.inl (some (.int v1)), hp E w2) := by
  refine Ev.run (c' := (8, [.ref 1], [.ref 2, .ref 21], hp E w)) hM_83 4 rfl ?_
  refine Ev.callR hd hM_83 rfl (y := 1) (as := [.ref 21, .ref 2]) (rest := []) rfl (Nat.le_of_ble_eq_true rfl) h1 ?_
  refine Ev.run (c' := (19, [.ref 1], [.int (gF w1 0), .ref 21], hp E w1)) hM_83 4 rfl ?_
  rw [← a1] at h2
  refine Ev.callR hd hM_83 rfl (y := 4) (as := [.ref 21, .int (gF w1 0)]) (rest := []) rfl (Nat.le_of_ble_eq_true rfl) h2 ?_
  refine Ev.run (c' := (22, [.ref 1], [.int v1], hp E w2)) hM_83 0 rfl ?_
  exact Ev.fin hM_83 rfl rfl
theorem hM_84 : mAt 84 = some km_X7_huntAnew := rfl
theorem p84_e_a {E : Nat × (Nat → Int32)} {w : Wd} {d : Nat} {x1 : Int32} {w' : Wd} (c1 : ¬ x1 < 0) (c2 : (4 : Int32) < x1) (qw : (sT w) = w') : Ev d 84 (ent0 84 [.ref 1, .int x1] (hp E w)) (.inr 0, hp E w') := by
  subst qw
  refine Ev.run (c' := (1, [.ref 1, .int x1], [.int x1], hp E w)) hM_84 1 rfl ?_
  refine Ev.ifF hM_84 rfl (cI_ltF c1) ?_
  refine Ev.run (c' := (6, [.ref 1, .int x1], [.int (4 : Int32), .int x1], hp E w)) hM_84 2 rfl ?_
  refine Ev.icF hM_84 rfl (cI_leF c2) ?_
  exact Ev.fin hM_84 rfl rfl
theorem p84_e_b {E : Nat × (Nat → Int32)} {w : Wd} {d : Nat} {x1 : Int32} {z1 : Int32} {w1 : Wd} {v1 : Int32} (hd : 1 ≤ d) (c1 : ¬ x1 < 0) (c2 : ¬ (4 : Int32) < x1) (a1 : (gF w 0) = z1) (h1 : Ev (d - 1) 62 (ent0 62 [.ref 2, .int z1, .int x1] (hp E w)) (.inl (some (.int v1)), hp E w1)) : Ev d 84 (ent0 84 [.ref 1, .int x1] (hp E w)) (.inl (some (.int v1)), hp E w1) := by
  refine Ev.run (c' := (1, [.ref 1, .int x1], [.int x1], hp E w)) hM_84 1 rfl ?_
  refine Ev.ifF hM_84 rfl (cI_ltF c1) ?_
  refine Ev.run (c' := (6, [.ref 1, .int x1], [.int (4 : Int32), .int x1], hp E w)) hM_84 2 rfl ?_
  refine Ev.icT hM_84 rfl (cI_leT c2) ?_
  refine Ev.run (c' := (28, [.ref 1, .int x1], [.int x1, .int (gF w 0), .ref 2], hp E w)) hM_84 5 rfl ?_
  rw [← a1] at h1
  refine Ev.callR hd hM_84 rfl (y := 62) (as := [.ref 2, .int (gF w 0), .int x1]) (rest := []) rfl (Nat.le_of_ble_eq_true rfl) h1 ?_
  refine Ev.run (c' := (31, [.ref 1, .int x1], [.int v1], hp E w1)) hM_84 0 rfl ?_
  exact Ev.fin hM_84 rfl rfl
theorem p84_e_c {E : Nat × (Nat → Int32)} {w : Wd} {d : Nat} {x1 : Int32} {w' : Wd} (c1 : x1 < 0) (qw : (sT w) = w') : Ev d 84 (ent0 84 [.ref 1, .int x1] (hp E w)) (.inr 0, hp E w') := by
  subst qw
  refine Ev.run (c' := (1, [.ref 1, .int x1], [.int x1], hp E w)) hM_84 1 rfl ?_
  refine Ev.ifT hM_84 rfl (cI_ltT c1) ?_
  exact Ev.fin hM_84 rfl rfl
theorem hM_85 : mAt 85 = some km_X7_aim := rfl
theorem p85_e_a {E : Nat × (Nat → Int32)} {w : Wd} {d : Nat} {w1 : Wd} {z1 : Int32} {w2 : Wd} {v1 : Int32} (hd : 1 ≤ d) (h1 : Ev (d - 1) 1 (ent0 1 [.ref 21, .ref 2] (hp E w)) (.inl none, hp E w1)) (a1 : (gF w1 0) = z1) (h2 : Ev (d - 1) 5 (ent0 5 [.ref 21, .ref 2, .int z1] (hp E w1)) (.inl (some (.int v1)), hp E w2)) : Ev d 85 (ent0 85 [.ref 1] (hp E w)) (.inl (some (.int v1)), hp E w2) := by
  refine Ev.run (c' := (8, [.ref 1], [.ref 2, .ref 21], hp E w)) hM_85 4 rfl ?_
  refine Ev.callR hd hM_85 rfl (y := 1) (as := [.ref 21, .ref 2]) (rest := []) rfl (Nat.le_of_ble_eq_true rfl) h1 ?_
  refine Ev.run (c' := (23, [.ref 1], [.int (gF w1 0), .ref 2, .ref 21], hp E w1)) hM_85 6 rfl ?_
  rw [← a1] at h2
  refine Ev.callR hd hM_85 rfl (y := 5) (as := [.ref 21, .ref 2, .int (gF w1 0)]) (rest := []) rfl (Nat.le_of_ble_eq_true rfl) h2 ?_
  refine Ev.run (c' := (26, [.ref 1], [.int v1], hp E w2)) hM_85 0 rfl ?_
  exact Ev.fin hM_85 rfl rfl
theorem hM_86 : mAt 86 = some km_X7_forced := rfl
theorem p86_e_a {E : Nat × (Nat → Int32)} {w : Wd} {d : Nat} {x1 : Int32} {w1 : Wd} (hd : 1 ≤ d) (h1 : Ev (d - 1) 92 (ent0 92 [.ref 1, .int x1] (hp E w)) (.inr 0, hp E w1)) : Ev d 86 (ent0 86 [.ref 1, .int x1] (hp E w)) (.inr 0, hp E w1) := by
  refine Ev.run (c' := (2, [.ref 1, .int x1], [.int x1, .ref 1], hp E w)) hM_86 2 rfl ?_
  refine Ev.passR hd hM_86 rfl (y := 92) (as := [.ref 1, .int x1]) (rest := []) rfl (Nat.le_of_ble_eq_true rfl) rfl rfl h1
theorem p86_e_b {E : Nat × (Nat → Int32)} {w : Wd} {d : Nat} {x1 : Int32} {w1 : Wd} {w2 : Wd} {v1 : Int32} (hd : 1 ≤ d) (h1 : Ev (d - 1) 92 (ent0 92 [.ref 1, .int x1] (hp E w)) (.inl none, hp E w1)) (h2 : Ev (d - 1) 27 (ent0 27 [.ref 2, .int x1] (hp E w1)) (.inl (some (.int v1)), hp E w2)) : Ev d 86 (ent0 86 [.ref 1, .int x1] (hp E w)) (.inl (some (.int v1)), hp E w2) := by
  refine Ev.run (c' := (2, [.ref 1, .int x1], [.int x1, .ref 1], hp E w)) hM_86 2 rfl ?_
  refine Ev.callR hd hM_86 rfl (y := 92) (as := [.ref 1, .int x1]) (rest := []) rfl (Nat.le_of_ble_eq_true rfl) h1 ?_
  refine Ev.run (c' := (10, [.ref 1, .int x1], [.int x1, .ref 2], hp E w1)) hM_86 3 rfl ?_
  refine Ev.callR hd hM_86 rfl (y := 27) (as := [.ref 2, .int x1]) (rest := []) rfl (Nat.le_of_ble_eq_true rfl) h2 ?_
  refine Ev.run (c' := (13, [.ref 1, .int x1], [.int v1], hp E w2)) hM_86 0 rfl ?_
  exact Ev.fin hM_86 rfl rfl
theorem hM_87 : mAt 87 = some km_X7_rounds := rfl
theorem p87_e_a {E : Nat × (Nat → Int32)} {w : Wd} {d : Nat} {x1 : Int32} {w1 : Wd} (hd : 1 ≤ d) (h1 : Ev (d - 1) 92 (ent0 92 [.ref 1, .int x1] (hp E w)) (.inr 0, hp E w1)) : Ev d 87 (ent0 87 [.ref 1, .int x1] (hp E w)) (.inr 0, hp E w1) := by
  refine Ev.run (c' := (2, [.ref 1, .int x1], [.int x1, .ref 1], hp E w)) hM_87 2 rfl ?_
  refine Ev.passR hd hM_87 rfl (y := 92) (as := [.ref 1, .int x1]) (rest := []) rfl (Nat.le_of_ble_eq_true rfl) rfl rfl h1
theorem p87_e_b {E : Nat × (Nat → Int32)} {w : Wd} {d : Nat} {x1 : Int32} {w1 : Wd} {w2 : Wd} {v1 : Int32} (hd : 1 ≤ d) (h1 : Ev (d - 1) 92 (ent0 92 [.ref 1, .int x1] (hp E w)) (.inl none, hp E w1)) (h2 : Ev (d - 1) 28 (ent0 28 [.ref 2, .int x1] (hp E w1)) (.inl (some (.int v1)), hp E w2)) : Ev d 87 (ent0 87 [.ref 1, .int x1] (hp E w)) (.inl (some (.int v1)), hp E w2) := by
  refine Ev.run (c' := (2, [.ref 1, .int x1], [.int x1, .ref 1], hp E w)) hM_87 2 rfl ?_
  refine Ev.callR hd hM_87 rfl (y := 92) (as := [.ref 1, .int x1]) (rest := []) rfl (Nat.le_of_ble_eq_true rfl) h1 ?_
  refine Ev.run (c' := (10, [.ref 1, .int x1], [.int x1, .ref 2], hp E w1)) hM_87 3 rfl ?_
  refine Ev.callR hd hM_87 rfl (y := 28) (as := [.ref 2, .int x1]) (rest := []) rfl (Nat.le_of_ble_eq_true rfl) h2 ?_
  refine Ev.run (c' := (13, [.ref 1, .int x1], [.int v1], hp E w2)) hM_87 0 rfl ?_
  exact Ev.fin hM_87 rfl rfl
theorem hM_88 : mAt 88 = some km_X7_leastBlue := rfl
theorem p88_e_a {E : Nat × (Nat → Int32)} {w : Wd} {d : Nat} {w1 : Wd} {y : Int32} (hd : 1 ≤ d) (h1 : Ev (d - 1) 25 (ent0 25 [.ref 26, .ref 2] (hp E w)) (.inl none, hp E w1)) (q : (gF w1 6) = y) : Ev d 88 (ent0 88 [.ref 1] (hp E w)) (.inl (some (.int y)), hp E w1) := by
  subst q
  refine Ev.run (c' := (8, [.ref 1], [.ref 2, .ref 26], hp E w)) hM_88 4 rfl ?_
  refine Ev.callR hd hM_88 rfl (y := 25) (as := [.ref 26, .ref 2]) (rest := []) rfl (Nat.le_of_ble_eq_true rfl) h1 ?_
  refine Ev.run (c' := (15, [.ref 1], [.ref 26], hp E w1)) hM_88 2 rfl ?_
  refine Ev.callR hd hM_88 rfl (y := 26) (as := [.ref 26]) (rest := []) rfl (Nat.le_of_ble_eq_true rfl) (Ev.run (c' := (4, [.ref 26], [.int (gF w1 6)], hp E w1)) hM_26 2 rfl (Ev.fin hM_26 rfl rfl)) ?_
  refine Ev.run (c' := (18, [.ref 1], [.int (gF w1 6)], hp E w1)) hM_88 0 rfl ?_
  exact Ev.fin hM_88 rfl rfl
theorem hM_89 : mAt 89 = some km_X7_beginDeeds := rfl
theorem p89_e_a {E : Nat × (Nat → Int32)} {w : Wd} {d : Nat} {w1 : Wd} {w2 : Wd} {v1 : Int32} {w' : Wd} (hd : 1 ≤ d) (h1 : Ev (d - 1) 32 (ent0 32 [.ref 5] (hp E w)) (.inl none, hp E w1)) (h2 : Ev (d - 1) 45 (ent0 45 [.ref 2] (hp E w1)) (.inl (some (.int v1)), hp E w2)) (qw : (sF 0 v1 w2) = w') : Ev d 89 (ent0 89 [.ref 1] (hp E w)) (.inl none, hp E w') := by
  subst qw
  refine Ev.run (c' := (4, [.ref 1], [.ref 5], hp E w)) hM_89 2 rfl ?_
  refine Ev.callR hd hM_89 rfl (y := 32) (as := [.ref 5]) (rest := []) rfl (Nat.le_of_ble_eq_true rfl) h1 ?_
  refine Ev.run (c' := (12, [.ref 1], [.ref 2, .ref 1], hp E w1)) hM_89 3 rfl ?_
  refine Ev.callR hd hM_89 rfl (y := 45) (as := [.ref 2]) (rest := [.ref 1]) rfl (Nat.le_of_ble_eq_true rfl) h2 ?_
  refine Ev.run (c' := (18, [.ref 1], [], hp E (sF 0 v1 w2))) hM_89 1 rfl ?_
  exact Ev.fin hM_89 rfl rfl
theorem hM_90 : mAt 90 = some km_X7_needRoom := rfl
theorem p90_e_a {E : Nat × (Nat → Int32)} {w : Wd} {d : Nat} {x1 : Int32} {w1 : Wd} {v1 : Int32} {w' : Wd} (hd : 1 ≤ d) (h1 : Ev (d - 1) 44 (ent0 44 [.ref 2, .int x1] (hp E w)) (.inl (some (.int v1)), hp E w1)) (c1 : v1 = 0) (qw : (sT w1) = w') : Ev d 90 (ent0 90 [.ref 1, .int x1] (hp E w)) (.inr 2, hp E w') := by
  subst qw
  refine Ev.run (c' := (5, [.ref 1, .int x1], [.int x1, .ref 2], hp E w)) hM_90 3 rfl ?_
  refine Ev.callR hd hM_90 rfl (y := 44) (as := [.ref 2, .int x1]) (rest := []) rfl (Nat.le_of_ble_eq_true rfl) h1 ?_
  refine Ev.run (c' := (8, [.ref 1, .int x1], [.int v1], hp E w1)) hM_90 0 rfl ?_
  refine Ev.ifF hM_90 rfl (cI_neF c1) ?_
  exact Ev.fin hM_90 rfl rfl
theorem p90_e_b {E : Nat × (Nat → Int32)} {w : Wd} {d : Nat} {x1 : Int32} {w1 : Wd} {v1 : Int32} (hd : 1 ≤ d) (h1 : Ev (d - 1) 44 (ent0 44 [.ref 2, .int x1] (hp E w)) (.inl (some (.int v1)), hp E w1)) (c1 : ¬ v1 = 0) : Ev d 90 (ent0 90 [.ref 1, .int x1] (hp E w)) (.inl none, hp E w1) := by
  refine Ev.run (c' := (5, [.ref 1, .int x1], [.int x1, .ref 2], hp E w)) hM_90 3 rfl ?_
  refine Ev.callR hd hM_90 rfl (y := 44) (as := [.ref 2, .int x1]) (rest := []) rfl (Nat.le_of_ble_eq_true rfl) h1 ?_
  refine Ev.run (c' := (8, [.ref 1, .int x1], [.int v1], hp E w1)) hM_90 0 rfl ?_
  refine Ev.ifT hM_90 rfl (cI_neT c1) ?_
  exact Ev.fin hM_90 rfl rfl
theorem hM_91 : mAt 91 = some km_X7_needBeginning := rfl
theorem p91_e_a {E : Nat × (Nat → Int32)} {w : Wd} {d : Nat} {x1 x2 x3 : Int32} {w1 : Wd} (hd : 1 ≤ d) (h1 : Ev (d - 1) 90 (ent0 90 [.ref 1, .int x1] (hp E w)) (.inr 2, hp E w1)) : Ev d 91 (ent0 91 [.ref 1, .int x1, .int x2, .int x3] (hp E w)) (.inr 2, hp E w1) := by
  refine Ev.run (c' := (2, [.ref 1, .int x1, .int x2, .int x3], [.int x1, .ref 1], hp E w)) hM_91 2 rfl ?_
  refine Ev.passR hd hM_91 rfl (y := 90) (as := [.ref 1, .int x1]) (rest := []) rfl (Nat.le_of_ble_eq_true rfl) rfl rfl h1
theorem p91_e_b {E : Nat × (Nat → Int32)} {w : Wd} {d : Nat} {x1 x2 x3 : Int32} {w1 : Wd} {w2 : Wd} (hd : 1 ≤ d) (h1 : Ev (d - 1) 90 (ent0 90 [.ref 1, .int x1] (hp E w)) (.inl none, hp E w1)) (c1 : ¬ x2 = (-1 : Int32)) (h2 : Ev (d - 1) 90 (ent0 90 [.ref 1, .int x2] (hp E w1)) (.inr 2, hp E w2)) : Ev d 91 (ent0 91 [.ref 1, .int x1, .int x2, .int x3] (hp E w)) (.inr 2, hp E w2) := by
  refine Ev.run (c' := (2, [.ref 1, .int x1, .int x2, .int x3], [.int x1, .ref 1], hp E w)) hM_91 2 rfl ?_
  refine Ev.callR hd hM_91 rfl (y := 90) (as := [.ref 1, .int x1]) (rest := []) rfl (Nat.le_of_ble_eq_true rfl) h1 ?_
  refine Ev.run (c' := (7, [.ref 1, .int x1, .int x2, .int x3], [.int (-1 : Int32), .int x2], hp E w1)) hM_91 2 rfl ?_
  refine Ev.icF hM_91 rfl (cI_eqF c1) ?_
  refine Ev.run (c' := (12, [.ref 1, .int x1, .int x2, .int x3], [.int x2, .ref 1], hp E w1)) hM_91 2 rfl ?_
  refine Ev.passR hd hM_91 rfl (y := 90) (as := [.ref 1, .int x2]) (rest := []) rfl (Nat.le_of_ble_eq_true rfl) rfl rfl h2
theorem p91_e_c {E : Nat × (Nat → Int32)} {w : Wd} {d : Nat} {x1 x2 x3 : Int32} {w1 : Wd} {w2 : Wd} {w3 : Wd} (hd : 1 ≤ d) (h1 : Ev (d - 1) 90 (ent0 90 [.ref 1, .int x1] (hp E w)) (.inl none, hp E w1)) (c1 : ¬ x2 = (-1 : Int32)) (h2 : Ev (d - 1) 90 (ent0 90 [.ref 1, .int x2] (hp E w1)) (.inl none, hp E w2)) (h3 : Ev (d - 1) 90 (ent0 90 [.ref 1, .int x3] (hp E w2)) (.inr 2, hp E w3)) : Ev d 91 (ent0 91 [.ref 1, .int x1, .int x2, .int x3] (hp E w)) (.inr 2, hp E w3) := by
  refine Ev.run (c' := (2, [.ref 1, .int x1, .int x2, .int x3], [.int x1, .ref 1], hp E w)) hM_91 2 rfl ?_
  refine Ev.callR hd hM_91 rfl (y := 90) (as := [.ref 1, .int x1]) (rest := []) rfl (Nat.le_of_ble_eq_true rfl) h1 ?_
  refine Ev.run (c' := (7, [.ref 1, .int x1, .int x2, .int x3], [.int (-1 : Int32), .int x2], hp E w1)) hM_91 2 rfl ?_
  refine Ev.icF hM_91 rfl (cI_eqF c1) ?_
  refine Ev.run (c' := (12, [.ref 1, .int x1, .int x2, .int x3], [.int x2, .ref 1], hp E w1)) hM_91 2 rfl ?_
  refine Ev.callR hd hM_91 rfl (y := 90) (as := [.ref 1, .int x2]) (rest := []) rfl (Nat.le_of_ble_eq_true rfl) h2 ?_
  refine Ev.run (c' := (17, [.ref 1, .int x1, .int x2, .int x3], [.int x3, .ref 1], hp E w2)) hM_91 2 rfl ?_
  refine Ev.passR hd hM_91 rfl (y := 90) (as := [.ref 1, .int x3]) (rest := []) rfl (Nat.le_of_ble_eq_true rfl) rfl rfl h3
theorem p91_e_d {E : Nat × (Nat → Int32)} {w : Wd} {d : Nat} {x1 x2 x3 : Int32} {w1 : Wd} {w2 : Wd} {w3 : Wd} (hd : 1 ≤ d) (h1 : Ev (d - 1) 90 (ent0 90 [.ref 1, .int x1] (hp E w)) (.inl none, hp E w1)) (c1 : ¬ x2 = (-1 : Int32)) (h2 : Ev (d - 1) 90 (ent0 90 [.ref 1, .int x2] (hp E w1)) (.inl none, hp E w2)) (h3 : Ev (d - 1) 90 (ent0 90 [.ref 1, .int x3] (hp E w2)) (.inl none, hp E w3)) : Ev d 91 (ent0 91 [.ref 1, .int x1, .int x2, .int x3] (hp E w)) (.inl none, hp E w3) := by
  refine Ev.run (c' := (2, [.ref 1, .int x1, .int x2, .int x3], [.int x1, .ref 1], hp E w)) hM_91 2 rfl ?_
  refine Ev.callR hd hM_91 rfl (y := 90) (as := [.ref 1, .int x1]) (rest := []) rfl (Nat.le_of_ble_eq_true rfl) h1 ?_
  refine Ev.run (c' := (7, [.ref 1, .int x1, .int x2, .int x3], [.int (-1 : Int32), .int x2], hp E w1)) hM_91 2 rfl ?_
  refine Ev.icF hM_91 rfl (cI_eqF c1) ?_
  refine Ev.run (c' := (12, [.ref 1, .int x1, .int x2, .int x3], [.int x2, .ref 1], hp E w1)) hM_91 2 rfl ?_
  refine Ev.callR hd hM_91 rfl (y := 90) (as := [.ref 1, .int x2]) (rest := []) rfl (Nat.le_of_ble_eq_true rfl) h2 ?_
  refine Ev.run (c' := (17, [.ref 1, .int x1, .int x2, .int x3], [.int x3, .ref 1], hp E w2)) hM_91 2 rfl ?_
  refine Ev.callR hd hM_91 rfl (y := 90) (as := [.ref 1, .int x3]) (rest := []) rfl (Nat.le_of_ble_eq_true rfl) h3 ?_
  refine Ev.run (c' := (20, [.ref 1, .int x1, .int x2, .int x3], [], hp E w3)) hM_91 0 rfl ?_
  exact Ev.fin hM_91 rfl rfl
theorem p91_e_e {E : Nat × (Nat → Int32)} {w : Wd} {d : Nat} {x1 x2 x3 : Int32} {w1 : Wd} {w2 : Wd} (hd : 1 ≤ d) (h1 : Ev (d - 1) 90 (ent0 90 [.ref 1, .int x1] (hp E w)) (.inl none, hp E w1)) (c1 : x2 = (-1 : Int32)) (h2 : Ev (d - 1) 90 (ent0 90 [.ref 1, .int x3] (hp E w1)) (.inr 2, hp E w2)) : Ev d 91 (ent0 91 [.ref 1, .int x1, .int x2, .int x3] (hp E w)) (.inr 2, hp E w2) := by
  refine Ev.run (c' := (2, [.ref 1, .int x1, .int x2, .int x3], [.int x1, .ref 1], hp E w)) hM_91 2 rfl ?_
  refine Ev.callR hd hM_91 rfl (y := 90) (as := [.ref 1, .int x1]) (rest := []) rfl (Nat.le_of_ble_eq_true rfl) h1 ?_
  refine Ev.run (c' := (7, [.ref 1, .int x1, .int x2, .int x3], [.int (-1 : Int32), .int x2], hp E w1)) hM_91 2 rfl ?_
  refine Ev.icT hM_91 rfl (cI_eqT c1) ?_
  refine Ev.run (c' := (17, [.ref 1, .int x1, .int x2, .int x3], [.int x3, .ref 1], hp E w1)) hM_91 2 rfl ?_
  refine Ev.passR hd hM_91 rfl (y := 90) (as := [.ref 1, .int x3]) (rest := []) rfl (Nat.le_of_ble_eq_true rfl) rfl rfl h2
theorem p91_e_f {E : Nat × (Nat → Int32)} {w : Wd} {d : Nat} {x1 x2 x3 : Int32} {w1 : Wd} {w2 : Wd} (hd : 1 ≤ d) (h1 : Ev (d - 1) 90 (ent0 90 [.ref 1, .int x1] (hp E w)) (.inl none, hp E w1)) (c1 : x2 = (-1 : Int32)) (h2 : Ev (d - 1) 90 (ent0 90 [.ref 1, .int x3] (hp E w1)) (.inl none, hp E w2)) : Ev d 91 (ent0 91 [.ref 1, .int x1, .int x2, .int x3] (hp E w)) (.inl none, hp E w2) := by
  refine Ev.run (c' := (2, [.ref 1, .int x1, .int x2, .int x3], [.int x1, .ref 1], hp E w)) hM_91 2 rfl ?_
  refine Ev.callR hd hM_91 rfl (y := 90) (as := [.ref 1, .int x1]) (rest := []) rfl (Nat.le_of_ble_eq_true rfl) h1 ?_
  refine Ev.run (c' := (7, [.ref 1, .int x1, .int x2, .int x3], [.int (-1 : Int32), .int x2], hp E w1)) hM_91 2 rfl ?_
  refine Ev.icT hM_91 rfl (cI_eqT c1) ?_
  refine Ev.run (c' := (17, [.ref 1, .int x1, .int x2, .int x3], [.int x3, .ref 1], hp E w1)) hM_91 2 rfl ?_
  refine Ev.callR hd hM_91 rfl (y := 90) (as := [.ref 1, .int x3]) (rest := []) rfl (Nat.le_of_ble_eq_true rfl) h2 ?_
  refine Ev.run (c' := (20, [.ref 1, .int x1, .int x2, .int x3], [], hp E w2)) hM_91 0 rfl ?_
  exact Ev.fin hM_91 rfl rfl
theorem hM_92 : mAt 92 = some km_X7_needSet := rfl
theorem p92_e_a {E : Nat × (Nat → Int32)} {w : Wd} {d : Nat} {x1 : Int32} {w1 : Wd} {v1 : Int32} {w' : Wd} (hd : 1 ≤ d) (c1 : ¬ x1 < 0) (h1 : Ev (d - 1) 45 (ent0 45 [.ref 2] (hp E w)) (.inl (some (.int v1)), hp E w1)) (c2 : v1 < x1) (qw : (sT w1) = w') : Ev d 92 (ent0 92 [.ref 1, .int x1] (hp E w)) (.inr 0, hp E w') := by
  subst qw
  refine Ev.run (c' := (1, [.ref 1, .int x1], [.int x1], hp E w)) hM_92 1 rfl ?_
  refine Ev.ifF hM_92 rfl (cI_ltF c1) ?_
  refine Ev.run (c' := (9, [.ref 1, .int x1], [.ref 2, .int x1], hp E w)) hM_92 3 rfl ?_
  refine Ev.callR hd hM_92 rfl (y := 45) (as := [.ref 2]) (rest := [.int x1]) rfl (Nat.le_of_ble_eq_true rfl) h1 ?_
  refine Ev.run (c' := (12, [.ref 1, .int x1], [.int v1, .int x1], hp E w1)) hM_92 0 rfl ?_
  refine Ev.icF hM_92 rfl (cI_leF c2) ?_
  exact Ev.fin hM_92 rfl rfl
theorem p92_e_b {E : Nat × (Nat → Int32)} {w : Wd} {d : Nat} {x1 : Int32} {w1 : Wd} {v1 : Int32} (hd : 1 ≤ d) (c1 : ¬ x1 < 0) (h1 : Ev (d - 1) 45 (ent0 45 [.ref 2] (hp E w)) (.inl (some (.int v1)), hp E w1)) (c2 : ¬ v1 < x1) : Ev d 92 (ent0 92 [.ref 1, .int x1] (hp E w)) (.inl none, hp E w1) := by
  refine Ev.run (c' := (1, [.ref 1, .int x1], [.int x1], hp E w)) hM_92 1 rfl ?_
  refine Ev.ifF hM_92 rfl (cI_ltF c1) ?_
  refine Ev.run (c' := (9, [.ref 1, .int x1], [.ref 2, .int x1], hp E w)) hM_92 3 rfl ?_
  refine Ev.callR hd hM_92 rfl (y := 45) (as := [.ref 2]) (rest := [.int x1]) rfl (Nat.le_of_ble_eq_true rfl) h1 ?_
  refine Ev.run (c' := (12, [.ref 1, .int x1], [.int v1, .int x1], hp E w1)) hM_92 0 rfl ?_
  refine Ev.icT hM_92 rfl (cI_leT c2) ?_
  exact Ev.fin hM_92 rfl rfl
theorem p92_e_c {E : Nat × (Nat → Int32)} {w : Wd} {d : Nat} {x1 : Int32} {w' : Wd} (c1 : x1 < 0) (qw : (sT w) = w') : Ev d 92 (ent0 92 [.ref 1, .int x1] (hp E w)) (.inr 0, hp E w') := by
  subst qw
  refine Ev.run (c' := (1, [.ref 1, .int x1], [.int x1], hp E w)) hM_92 1 rfl ?_
  refine Ev.ifT hM_92 rfl (cI_ltT c1) ?_
  exact Ev.fin hM_92 rfl rfl
theorem hM_93 : mAt 93 = some km_X7_needPlaceForDeed := rfl
theorem p93_e_a {E : Nat × (Nat → Int32)} {w : Wd} {d : Nat} {w' : Wd} (hd : 1 ≤ d) (c1 : ¬ (gF w 3) < (200 : Int32)) (qw : (sT w) = w') : Ev d 93 (ent0 93 [.ref 1] (hp E w)) (.inr 1, hp E w') := by
  subst qw
  refine Ev.run (c' := (4, [.ref 1], [.ref 5], hp E w)) hM_93 2 rfl ?_
  refine Ev.callR hd hM_93 rfl (y := 31) (as := [.ref 5]) (rest := []) rfl (Nat.le_of_ble_eq_true rfl) (Ev.run (c' := (4, [.ref 5], [.int (gF w 3)], hp E w)) hM_31 2 rfl (Ev.fin hM_31 rfl rfl)) ?_
  refine Ev.run (c' := (10, [.ref 1], [.int (200 : Int32), .int (gF w 3)], hp E w)) hM_93 1 rfl ?_
  refine Ev.icF hM_93 rfl (cI_ltF c1) ?_
  exact Ev.fin hM_93 rfl rfl
theorem p93_e_b {E : Nat × (Nat → Int32)} {w : Wd} {d : Nat}  (hd : 1 ≤ d) (c1 : (gF w 3) < (200 : Int32)) : Ev d 93 (ent0 93 [.ref 1] (hp E w)) (.inl none, hp E w) := by
  refine Ev.run (c' := (4, [.ref 1], [.ref 5], hp E w)) hM_93 2 rfl ?_
  refine Ev.callR hd hM_93 rfl (y := 31) (as := [.ref 5]) (rest := []) rfl (Nat.le_of_ble_eq_true rfl) (Ev.run (c' := (4, [.ref 5], [.int (gF w 3)], hp E w)) hM_31 2 rfl (Ev.fin hM_31 rfl rfl)) ?_
  refine Ev.run (c' := (10, [.ref 1], [.int (200 : Int32), .int (gF w 3)], hp E w)) hM_93 1 rfl ?_
  refine Ev.icT hM_93 rfl (cI_ltT c1) ?_
  exact Ev.fin hM_93 rfl rfl
theorem hM_94 : mAt 94 = some km_X7_placeOf := rfl
theorem p94_e_a {E : Nat × (Nat → Int32)} {w : Wd} {d : Nat} {x0 : Int32}  (c1 : x0 = (-1 : Int32)) : Ev d 94 (ent0 94 [.int x0] (hp E w)) (.inl (some (.int (9 : Int32))), hp E w) := by
  refine Ev.run (c' := (2, [.int x0], [.int (-1 : Int32), .int x0], hp E w)) hM_94 2 rfl ?_
  refine Ev.icF hM_94 rfl (cI_neF c1) ?_
  refine Ev.run (c' := (11, [.int x0], [.int (9 : Int32)], hp E w)) hM_94 2 rfl ?_
  exact Ev.fin hM_94 rfl rfl
theorem p94_e_b {E : Nat × (Nat → Int32)} {w : Wd} {d : Nat} {x0 : Int32}  (c1 : ¬ x0 = (-1 : Int32)) : Ev d 94 (ent0 94 [.int x0] (hp E w)) (.inl (some (.int x0)), hp E w) := by
  refine Ev.run (c' := (2, [.int x0], [.int (-1 : Int32), .int x0], hp E w)) hM_94 2 rfl ?_
  refine Ev.icT hM_94 rfl (cI_neT c1) ?_
  refine Ev.run (c' := (11, [.int x0], [.int x0], hp E w)) hM_94 1 rfl ?_
  exact Ev.fin hM_94 rfl rfl
end
