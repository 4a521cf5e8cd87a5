section
theorem hM_139 : mAt 139 = some km_L_rooms := rfl
theorem p139_e_a {E : Nat × (Nat → Int32)} {w : Wd} {d : Nat} {x1 : Int32} {w1 : Wd} (hd : 1 ≤ d) (h1 : Ev (d - 1) 69 (ent0 69 [.ref 1, .int x1] (hp E w)) (.inr 0, hp E w1)) : Ev d 139 (ent0 139 [.ref 1, .int x1, .ref 37] (hp E w)) (.inl (some (.int (1 : Int32))), hp E w1) := by
  refine Ev.run (c' := (4, [.ref 1, .int x1, .ref 37, jk], [.int x1, .ref 1, .int (0 : Int32), .ref 37], hp E w)) hM_139 4 rfl ?_
  refine Ev.catchR hd hM_139 rfl (y := 69) (as := [.ref 1, .int x1]) (rest := [.int (0 : Int32), .ref 37]) rfl (by decide) rfl (hpc := 12) rfl (q := (13, 3)) rfl (Nat.le_of_ble_eq_true rfl) h1 ?_
  refine Ev.run (c' := (14, [.ref 1, .int x1, .ref 37, jk], [.int (1 : Int32)], hp E w1)) hM_139 1 rfl ?_
  exact Ev.fin hM_139 rfl rfl
theorem p139_e_b {E : Nat × (Nat → Int32)} {w : Wd} {d : Nat} {x1 : Int32} {w1 : Wd} {v1 : Int32} {w' : Wd} (hd : 1 ≤ d) (h1 : Ev (d - 1) 69 (ent0 69 [.ref 1, .int x1] (hp E w)) (.inl (some (.int v1)), hp E w1)) (qw : (so1 ((v1).toInt64) w1) = w') : Ev d 139 (ent0 139 [.ref 1, .int x1, .ref 37] (hp E w)) (.inl (some (.int (0 : Int32))), hp E w') := by
  subst qw
  refine Ev.run (c' := (4, [.ref 1, .int x1, .ref 37, jk], [.int x1, .ref 1, .int (0 : Int32), .ref 37], hp E w)) hM_139 4 rfl ?_
  refine Ev.callR hd hM_139 rfl (y := 69) (as := [.ref 1, .int x1]) (rest := [.int (0 : Int32), .ref 37]) rfl (Nat.le_of_ble_eq_true rfl) h1 ?_
  refine Ev.run (c' := (16, [.ref 1, .int x1, .ref 37, jk], [.int (0 : Int32)], hp E (so1 ((v1).toInt64) w1))) hM_139 4 rfl ?_
  exact Ev.fin hM_139 rfl rfl
theorem hM_140 : mAt 140 = some km_L_family := rfl
theorem p140_e_a {E : Nat × (Nat → Int32)} {w : Wd} {d : Nat} {x1 : Int32} {w1 : Wd} (hd : 1 ≤ d) (h1 : Ev (d - 1) 70 (ent0 70 [.ref 1, .int x1] (hp E w)) (.inr 1, hp E w1)) : Ev d 140 (ent0 140 [.ref 1, .int x1, .ref 37] (hp E w)) (.inl (some (.int (2 : Int32))), hp E w1) := by
  refine Ev.run (c' := (4, [.ref 1, .int x1, .ref 37, jk], [.int x1, .ref 1, .int (0 : Int32), .ref 37], hp E w)) hM_140 4 rfl ?_
  refine Ev.catchR hd hM_140 rfl (y := 70) (as := [.ref 1, .int x1]) (rest := [.int (0 : Int32), .ref 37]) rfl (by decide) rfl (hpc := 15) rfl (q := (16, 3)) rfl (Nat.le_of_ble_eq_true rfl) h1 ?_
  refine Ev.run (c' := (17, [.ref 1, .int x1, .ref 37, jk], [.int (2 : Int32)], hp E w1)) hM_140 1 rfl ?_
  exact Ev.fin hM_140 rfl rfl
theorem p140_e_b {E : Nat × (Nat → Int32)} {w : Wd} {d : Nat} {x1 : Int32} {w1 : Wd} (hd : 1 ≤ d) (h1 : Ev (d - 1) 70 (ent0 70 [.ref 1, .int x1] (hp E w)) (.inr 0, hp E w1)) : Ev d 140 (ent0 140 [.ref 1, .int x1, .ref 37] (hp E w)) (.inl (some (.int (1 : Int32))), hp E w1) := by
  refine Ev.run (c' := (4, [.ref 1, .int x1, .ref 37, jk], [.int x1, .ref 1, .int (0 : Int32), .ref 37], hp E w)) hM_140 4 rfl ?_
  refine Ev.catchR hd hM_140 rfl (y := 70) (as := [.ref 1, .int x1]) (rest := [.int (0 : Int32), .ref 37]) rfl (by decide) rfl (hpc := 12) rfl (q := (13, 3)) rfl (Nat.le_of_ble_eq_true rfl) h1 ?_
  refine Ev.run (c' := (14, [.ref 1, .int x1, .ref 37, jk], [.int (1 : Int32)], hp E w1)) hM_140 1 rfl ?_
  exact Ev.fin hM_140 rfl rfl
theorem p140_e_c {E : Nat × (Nat → Int32)} {w : Wd} {d : Nat} {x1 : Int32} {w1 : Wd} {v1 : Int32} {w' : Wd} (hd : 1 ≤ d) (h1 : Ev (d - 1) 70 (ent0 70 [.ref 1, .int x1] (hp E w)) (.inl (some (.int v1)), hp E w1)) (qw : (so1 ((v1).toInt64) w1) = w') : Ev d 140 (ent0 140 [.ref 1, .int x1, .ref 37] (hp E w)) (.inl (some (.int (0 : Int32))), hp E w') := by
  subst qw
  refine Ev.run (c' := (4, [.ref 1, .int x1, .ref 37, jk], [.int x1, .ref 1, .int (0 : Int32), .ref 37], hp E w)) hM_140 4 rfl ?_
  refine Ev.callR hd hM_140 rfl (y := 70) (as := [.ref 1, .int x1]) (rest := [.int (0 : Int32), .ref 37]) rfl (Nat.le_of_ble_eq_true rfl) h1 ?_
  refine Ev.run (c' := (19, [.ref 1, .int x1, .ref 37, jk], [.int (0 : Int32)], hp E (so1 ((v1).toInt64) w1))) hM_140 4 rfl ?_
  exact Ev.fin hM_140 rfl rfl
theorem hM_141 : mAt 141 = some km_L_door := rfl
theorem p141_e_a {E : Nat × (Nat → Int32)} {w : Wd} {d : Nat} {x1 x2 x3 : Int32} {w1 : Wd} (hd : 1 ≤ d) (h1 : Ev (d - 1) 71 (ent0 71 [.ref 1, .int x1, .int x2, .int x3] (hp E w)) (.inr 1, hp E w1)) : Ev d 141 (ent0 141 [.ref 1, .int x1, .int x2, .int x3, .ref 37] (hp E w)) (.inl (some (.int (3 : Int32))), hp E w1) := by
  refine Ev.run (c' := (7, [.ref 1, .int x1, .int x2, .int x3, .ref 37, jk], [.int x3, .int x2, .int x1, .ref 1, .int (0 : Int32), .ref 37], hp E w)) hM_141 6 rfl ?_
  refine Ev.catchR hd hM_141 rfl (y := 71) (as := [.ref 1, .int x1, .int x2, .int x3]) (rest := [.int (0 : Int32), .ref 37]) rfl (by decide) rfl (hpc := 30) rfl (q := (32, 5)) rfl (Nat.le_of_ble_eq_true rfl) h1 ?_
  refine Ev.run (c' := (33, [.ref 1, .int x1, .int x2, .int x3, .ref 37, jk], [.int (3 : Int32)], hp E w1)) hM_141 1 rfl ?_
  exact Ev.fin hM_141 rfl rfl
theorem p141_e_b {E : Nat × (Nat → Int32)} {w : Wd} {d : Nat} {x1 x2 x3 : Int32} {w1 : Wd} (hd : 1 ≤ d) (h1 : Ev (d - 1) 71 (ent0 71 [.ref 1, .int x1, .int x2, .int x3] (hp E w)) (.inr 0, hp E w1)) : Ev d 141 (ent0 141 [.ref 1, .int x1, .int x2, .int x3, .ref 37] (hp E w)) (.inl (some (.int (2 : Int32))), hp E w1) := by
  refine Ev.run (c' := (7, [.ref 1, .int x1, .int x2, .int x3, .ref 37, jk], [.int x3, .int x2, .int x1, .ref 1, .int (0 : Int32), .ref 37], hp E w)) hM_141 6 rfl ?_
  refine Ev.catchR hd hM_141 rfl (y := 71) (as := [.ref 1, .int x1, .int x2, .int x3]) (rest := [.int (0 : Int32), .ref 37]) rfl (by decide) rfl (hpc := 26) rfl (q := (28, 5)) rfl (Nat.le_of_ble_eq_true rfl) h1 ?_
  refine Ev.run (c' := (29, [.ref 1, .int x1, .int x2, .int x3, .ref 37, jk], [.int (2 : Int32)], hp E w1)) hM_141 1 rfl ?_
  exact Ev.fin hM_141 rfl rfl
theorem p141_e_c {E : Nat × (Nat → Int32)} {w : Wd} {d : Nat} {x1 x2 x3 : Int32} {w1 : Wd} (hd : 1 ≤ d) (h1 : Ev (d - 1) 71 (ent0 71 [.ref 1, .int x1, .int x2, .int x3] (hp E w)) (.inr 2, hp E w1)) : Ev d 141 (ent0 141 [.ref 1, .int x1, .int x2, .int x3, .ref 37] (hp E w)) (.inl (some (.int (1 : Int32))), hp E w1) := by
  refine Ev.run (c' := (7, [.ref 1, .int x1, .int x2, .int x3, .ref 37, jk], [.int x3, .int x2, .int x1, .ref 1, .int (0 : Int32), .ref 37], hp E w)) hM_141 6 rfl ?_
  refine Ev.catchR hd hM_141 rfl (y := 71) (as := [.ref 1, .int x1, .int x2, .int x3]) (rest := [.int (0 : Int32), .ref 37]) rfl (by decide) rfl (hpc := 22) rfl (q := (24, 5)) rfl (Nat.le_of_ble_eq_true rfl) h1 ?_
  refine Ev.run (c' := (25, [.ref 1, .int x1, .int x2, .int x3, .ref 37, jk], [.int (1 : Int32)], hp E w1)) hM_141 1 rfl ?_
  exact Ev.fin hM_141 rfl rfl
theorem p141_e_d {E : Nat × (Nat → Int32)} {w : Wd} {d : Nat} {x1 x2 x3 : Int32} {w1 : Wd} {v1 : Int32} {w' : Wd} (hd : 1 ≤ d) (h1 : Ev (d - 1) 71 (ent0 71 [.ref 1, .int x1, .int x2, .int x3] (hp E w)) (.inl (some (.int v1)), hp E w1)) (c1 : ¬ v1 = 0) (qw : (so1 (1 : Int64) w1) = w') : Ev d 141 (ent0 141 [.ref 1, .int x1, .int x2, .int x3, .ref 37] (hp E w)) (.inl (some (.int (0 : Int32))), hp E w') := by
  subst qw
  refine Ev.run (c' := (7, [.ref 1, .int x1, .int x2, .int x3, .ref 37, jk], [.int x3, .int x2, .int x1, .ref 1, .int (0 : Int32), .ref 37], hp E w)) hM_141 6 rfl ?_
  refine Ev.callR hd hM_141 rfl (y := 71) (as := [.ref 1, .int x1, .int x2, .int x3]) (rest := [.int (0 : Int32), .ref 37]) rfl (Nat.le_of_ble_eq_true rfl) h1 ?_
  refine Ev.run (c' := (10, [.ref 1, .int x1, .int x2, .int x3, .ref 37, jk], [.int v1, .int (0 : Int32), .ref 37], hp E w1)) hM_141 0 rfl ?_
  refine Ev.ifF hM_141 rfl (cI_eqF c1) ?_
  refine Ev.run (c' := (35, [.ref 1, .int x1, .int x2, .int x3, .ref 37, jk], [.int (0 : Int32)], hp E (so1 (1 : Int64) w1))) hM_141 5 rfl ?_
  exact Ev.fin hM_141 rfl rfl
theorem p141_e_e {E : Nat × (Nat → Int32)} {w : Wd} {d : Nat} {x1 x2 x3 : Int32} {w1 : Wd} {v1 : Int32} {w' : Wd} (hd : 1 ≤ d) (h1 : Ev (d - 1) 71 (ent0 71 [.ref 1, .int x1, .int x2, .int x3] (hp E w)) (.inl (some (.int v1)), hp E w1)) (c1 : v1 = 0) (qw : (so1 (0 : Int64) w1) = w') : Ev d 141 (ent0 141 [.ref 1, .int x1, .int x2, .int x3, .ref 37] (hp E w)) (.inl (some (.int (0 : Int32))), hp E w') := by
  subst qw
  refine Ev.run (c' := (7, [.ref 1, .int x1, .int x2, .int x3, .ref 37, jk], [.int x3, .int x2, .int x1, .ref 1, .int (0 : Int32), .ref 37], hp E w)) hM_141 6 rfl ?_
  refine Ev.callR hd hM_141 rfl (y := 71) (as := [.ref 1, .int x1, .int x2, .int x3]) (rest := [.int (0 : Int32), .ref 37]) rfl (Nat.le_of_ble_eq_true rfl) h1 ?_
  refine Ev.run (c' := (10, [.ref 1, .int x1, .int x2, .int x3, .ref 37, jk], [.int v1, .int (0 : Int32), .ref 37], hp E w1)) hM_141 0 rfl ?_
  refine Ev.ifT hM_141 rfl (cI_eqT c1) ?_
  refine Ev.run (c' := (35, [.ref 1, .int x1, .int x2, .int x3, .ref 37, jk], [.int (0 : Int32)], hp E (so1 (0 : Int64) w1))) hM_141 4 rfl ?_
  exact Ev.fin hM_141 rfl rfl
theorem hM_142 : mAt 142 = some km_L_shoot := rfl
theorem p142_e_a {E : Nat × (Nat → Int32)} {w : Wd} {d : Nat} {x1 : Int32} {w1 : Wd} (hd : 1 ≤ d) (h1 : Ev (d - 1) 72 (ent0 72 [.ref 1, .int x1] (hp E w)) (.inr 1, hp E w1)) : Ev d 142 (ent0 142 [.ref 1, .int x1, .ref 37] (hp E w)) (.inl (some (.int (2 : Int32))), hp E w1) := by
  refine Ev.run (c' := (4, [.ref 1, .int x1, .ref 37, jk], [.int x1, .ref 1, .int (0 : Int32), .ref 37], hp E w)) hM_142 4 rfl ?_
  refine Ev.catchR hd hM_142 rfl (y := 72) (as := [.ref 1, .int x1]) (rest := [.int (0 : Int32), .ref 37]) rfl (by decide) rfl (hpc := 15) rfl (q := (16, 3)) rfl (Nat.le_of_ble_eq_true rfl) h1 ?_
  refine Ev.run (c' := (17, [.ref 1, .int x1, .ref 37, jk], [.int (2 : Int32)], hp E w1)) hM_142 1 rfl ?_
  exact Ev.fin hM_142 rfl rfl
theorem p142_e_b {E : Nat × (Nat → Int32)} {w : Wd} {d : Nat} {x1 : Int32} {w1 : Wd} (hd : 1 ≤ d) (h1 : Ev (d - 1) 72 (ent0 72 [.ref 1, .int x1] (hp E w)) (.inr 2, hp E w1)) : Ev d 142 (ent0 142 [.ref 1, .int x1, .ref 37] (hp E w)) (.inl (some (.int (1 : Int32))), hp E w1) := by
  refine Ev.run (c' := (4, [.ref 1, .int x1, .ref 37, jk], [.int x1, .ref 1, .int (0 : Int32), .ref 37], hp E w)) hM_142 4 rfl ?_
  refine Ev.catchR hd hM_142 rfl (y := 72) (as := [.ref 1, .int x1]) (rest := [.int (0 : Int32), .ref 37]) rfl (by decide) rfl (hpc := 12) rfl (q := (13, 3)) rfl (Nat.le_of_ble_eq_true rfl) h1 ?_
  refine Ev.run (c' := (14, [.ref 1, .int x1, .ref 37, jk], [.int (1 : Int32)], hp E w1)) hM_142 1 rfl ?_
  exact Ev.fin hM_142 rfl rfl
theorem p142_e_c {E : Nat × (Nat → Int32)} {w : Wd} {d : Nat} {x1 : Int32} {w1 : Wd} {v1 : Int32} {w' : Wd} (hd : 1 ≤ d) (h1 : Ev (d - 1) 72 (ent0 72 [.ref 1, .int x1] (hp E w)) (.inl (some (.int v1)), hp E w1)) (qw : (so1 ((v1).toInt64) w1) = w') : Ev d 142 (ent0 142 [.ref 1, .int x1, .ref 37] (hp E w)) (.inl (some (.int (0 : Int32))), hp E w') := by
  subst qw
  refine Ev.run (c' := (4, [.ref 1, .int x1, .ref 37, jk], [.int x1, .ref 1, .int (0 : Int32), .ref 37], hp E w)) hM_142 4 rfl ?_
  refine Ev.callR hd hM_142 rfl (y := 72) (as := [.ref 1, .int x1]) (rest := [.int (0 : Int32), .ref 37]) rfl (Nat.le_of_ble_eq_true rfl) h1 ?_
  refine Ev.run (c' := (19, [.ref 1, .int x1, .ref 37, jk], [.int (0 : Int32)], hp E (so1 ((v1).toInt64) w1))) hM_142 4 rfl ?_
  exact Ev.fin hM_142 rfl rfl
theorem hM_143 : mAt 143 = some km_L_back := rfl
theorem p143_e_a {E : Nat × (Nat → Int32)} {w : Wd} {d : Nat} {w1 : Wd} (hd : 1 ≤ d) (h1 : Ev (d - 1) 73 (ent0 73 [.ref 1] (hp E w)) (.inr 1, hp E w1)) : Ev d 143 (ent0 143 [.ref 1, .ref 37] (hp E w)) (.inl (some (.int (1 : Int32))), hp E w1) := by
  refine Ev.run (c' := (3, [.ref 1, .ref 37, jk], [.ref 1, .int (0 : Int32), .ref 37], hp E w)) hM_143 3 rfl ?_
  refine Ev.catchR hd hM_143 rfl (y := 73) (as := [.ref 1]) (rest := [.int (0 : Int32), .ref 37]) rfl (by decide) rfl (hpc := 11) rfl (q := (12, 2)) rfl (Nat.le_of_ble_eq_true rfl) h1 ?_
  refine Ev.run (c' := (13, [.ref 1, .ref 37, jk], [.int (1 : Int32)], hp E w1)) hM_143 1 rfl ?_
  exact Ev.fin hM_143 rfl rfl
theorem p143_e_b {E : Nat × (Nat → Int32)} {w : Wd} {d : Nat} {w1 : Wd} {v1 : Int32} {w' : Wd} (hd : 1 ≤ d) (h1 : Ev (d - 1) 73 (ent0 73 [.ref 1] (hp E w)) (.inl (some (.int v1)), hp E w1)) (qw : (so1 ((v1).toInt64) w1) = w') : Ev d 143 (ent0 143 [.ref 1, .ref 37] (hp E w)) (.inl (some (.int (0 : Int32))), hp E w') := by
  subst qw
  refine Ev.run (c' := (3, [.ref 1, .ref 37, jk], [.ref 1, .int (0 : Int32), .ref 37], hp E w)) hM_143 3 rfl ?_
  refine Ev.callR hd hM_143 rfl (y := 73) (as := [.ref 1]) (rest := [.int (0 : Int32), .ref 37]) rfl (Nat.le_of_ble_eq_true rfl) h1 ?_
  refine Ev.run (c' := (15, [.ref 1, .ref 37, jk], [.int (0 : Int32)], hp E (so1 ((v1).toInt64) w1))) hM_143 4 rfl ?_
  exact Ev.fin hM_143 rfl rfl
theorem hM_144 : mAt 144 = some km_L_next := rfl
theorem p144_e_a {E : Nat × (Nat → Int32)} {w : Wd} {d : Nat} {x1 : Int32} {w1 : Wd} (hd : 1 ≤ d) (h1 : Ev (d - 1) 75 (ent0 75 [.ref 1, .int x1] (hp E w)) (.inr 2, hp E w1)) : Ev d 144 (ent0 144 [.ref 1, .int x1, .ref 37] (hp E w)) (.inl (some (.int (1 : Int32))), hp E w1) := by
  refine Ev.run (c' := (4, [.ref 1, .int x1, .ref 37, jk], [.int x1, .ref 1, .int (0 : Int32), .ref 37], hp E w)) hM_144 4 rfl ?_
  refine Ev.catchR hd hM_144 rfl (y := 75) (as := [.ref 1, .int x1]) (rest := [.int (0 : Int32), .ref 37]) rfl (by decide) rfl (hpc := 12) rfl (q := (13, 3)) rfl (Nat.le_of_ble_eq_true rfl) h1 ?_
  refine Ev.run (c' := (14, [.ref 1, .int x1, .ref 37, jk], [.int (1 : Int32)], hp E w1)) hM_144 1 rfl ?_
  exact Ev.fin hM_144 rfl rfl
theorem p144_e_b {E : Nat × (Nat → Int32)} {w : Wd} {d : Nat} {x1 : Int32} {w1 : Wd} {v1 : Int32} {w' : Wd} (hd : 1 ≤ d) (h1 : Ev (d - 1) 75 (ent0 75 [.ref 1, .int x1] (hp E w)) (.inl (some (.int v1)), hp E w1)) (qw : (so1 ((v1).toInt64) w1) = w') : Ev d 144 (ent0 144 [.ref 1, .int x1, .ref 37] (hp E w)) (.inl (some (.int (0 : Int32))), hp E w') := by
  subst qw
  refine Ev.run (c' := (4, [.ref 1, .int x1, .ref 37, jk], [.int x1, .ref 1, .int (0 : Int32), .ref 37], hp E w)) hM_144 4 rfl ?_
  refine Ev.callR hd hM_144 rfl (y := 75) (as := [.ref 1, .int x1]) (rest := [.int (0 : Int32), .ref 37]) rfl (Nat.le_of_ble_eq_true rfl) h1 ?_
  refine Ev.run (c' := (16, [.ref 1, .int x1, .ref 37, jk], [.int (0 : Int32)], hp E (so1 ((v1).toInt64) w1))) hM_144 4 rfl ?_
  exact Ev.fin hM_144 rfl rfl
theorem hM_145 : mAt 145 = some km_L_time := rfl
theorem p145_e_a {E : Nat × (Nat → Int32)} {w : Wd} {d : Nat} {x1 x2 x3 : Int32} {w1 : Wd} (hd : 1 ≤ d) (h1 : Ev (d - 1) 76 (ent0 76 [.ref 1, .int x1, .int x2, .int x3] (hp E w)) (.inr 2, hp E w1)) : Ev d 145 (ent0 145 [.ref 1, .int x1, .int x2, .int x3, .ref 37] (hp E w)) (.inl (some (.int (1 : Int32))), hp E w1) := by
  refine Ev.run (c' := (7, [.ref 1, .int x1, .int x2, .int x3, .ref 37, jk], [.int x3, .int x2, .int x1, .ref 1, .int (0 : Int32), .ref 37], hp E w)) hM_145 6 rfl ?_
  refine Ev.catchR hd hM_145 rfl (y := 76) (as := [.ref 1, .int x1, .int x2, .int x3]) (rest := [.int (0 : Int32), .ref 37]) rfl (by decide) rfl (hpc := 15) rfl (q := (17, 5)) rfl (Nat.le_of_ble_eq_true rfl) h1 ?_
  refine Ev.run (c' := (18, [.ref 1, .int x1, .int x2, .int x3, .ref 37, jk], [.int (1 : Int32)], hp E w1)) hM_145 1 rfl ?_
  exact Ev.fin hM_145 rfl rfl
theorem p145_e_b {E : Nat × (Nat → Int32)} {w : Wd} {d : Nat} {x1 x2 x3 : Int32} {w1 : Wd} {v1 : Int32} {w' : Wd} (hd : 1 ≤ d) (h1 : Ev (d - 1) 76 (ent0 76 [.ref 1, .int x1, .int x2, .int x3] (hp E w)) (.inl (some (.int v1)), hp E w1)) (qw : (so1 ((v1).toInt64) w1) = w') : Ev d 145 (ent0 145 [.ref 1, .int x1, .int x2, .int x3, .ref 37] (hp E w)) (.inl (some (.int (0 : Int32))), hp E w') := by
  subst qw
  refine Ev.run (c' := (7, [.ref 1, .int x1, .int x2, .int x3, .ref 37, jk], [.int x3, .int x2, .int x1, .ref 1, .int (0 : Int32), .ref 37], hp E w)) hM_145 6 rfl ?_
  refine Ev.callR hd hM_145 rfl (y := 76) (as := [.ref 1, .int x1, .int x2, .int x3]) (rest := [.int (0 : Int32), .ref 37]) rfl (Nat.le_of_ble_eq_true rfl) h1 ?_
  refine Ev.run (c' := (20, [.ref 1, .int x1, .int x2, .int x3, .ref 37, jk], [.int (0 : Int32)], hp E (so1 ((v1).toInt64) w1))) hM_145 4 rfl ?_
  exact Ev.fin hM_145 rfl rfl
theorem hM_146 : mAt 146 = some km_L_timeAnew := rfl
theorem p146_e_a {E : Nat × (Nat → Int32)} {w : Wd} {d : Nat} {x1 x2 x3 x4 : Int32} {w1 : Wd} (hd : 1 ≤ d) (h1 : Ev (d - 1) 77 (ent0 77 [.ref 1, .int x1, .int x2, .int x3, .int x4] (hp E w)) (.inr 0, hp E w1)) : Ev d 146 (ent0 146 [.ref 1, .int x1, .int x2, .int x3, .int x4, .ref 37] (hp E w)) (.inl (some (.int (2 : Int32))), hp E w1) := by
  refine Ev.run (c' := (9, [.ref 1, .int x1, .int x2, .int x3, .int x4, .ref 37, jk], [.int x4, .int x3, .int x2, .int x1, .ref 1, .int (0 : Int32), .ref 37], hp E w)) hM_146 7 rfl ?_
  refine Ev.catchR hd hM_146 rfl (y := 77) (as := [.ref 1, .int x1, .int x2, .int x3, .int x4]) (rest := [.int (0 : Int32), .ref 37]) rfl (by decide) rfl (hpc := 21) rfl (q := (23, 6)) rfl (Nat.le_of_ble_eq_true rfl) h1 ?_
  refine Ev.run (c' := (24, [.ref 1, .int x1, .int x2, .int x3, .int x4, .ref 37, jk], [.int (2 : Int32)], hp E w1)) hM_146 1 rfl ?_
  exact Ev.fin hM_146 rfl rfl
theorem p146_e_b {E : Nat × (Nat → Int32)} {w : Wd} {d : Nat} {x1 x2 x3 x4 : Int32} {w1 : Wd} (hd : 1 ≤ d) (h1 : Ev (d - 1) 77 (ent0 77 [.ref 1, .int x1, .int x2, .int x3, .int x4] (hp E w)) (.inr 2, hp E w1)) : Ev d 146 (ent0 146 [.ref 1, .int x1, .int x2, .int x3, .int x4, .ref 37] (hp E w)) (.inl (some (.int (1 : Int32))), hp E w1) := by
  refine Ev.run (c' := (9, [.ref 1, .int x1, .int x2, .int x3, .int x4, .ref 37, jk], [.int x4, .int x3, .int x2, .int x1, .ref 1, .int (0 : Int32), .ref 37], hp E w)) hM_146 7 rfl ?_
  refine Ev.catchR hd hM_146 rfl (y := 77) (as := [.ref 1, .int x1, .int x2, .int x3, .int x4]) (rest := [.int (0 : Int32), .ref 37]) rfl (by decide) rfl (hpc := 17) rfl (q := (19, 6)) rfl (Nat.le_of_ble_eq_true rfl) h1 ?_
  refine Ev.run (c' := (20, [.ref 1, .int x1, .int x2, .int x3, .int x4, .ref 37, jk], [.int (1 : Int32)], hp E w1)) hM_146 1 rfl ?_
  exact Ev.fin hM_146 rfl rfl
theorem p146_e_c {E : Nat × (Nat → Int32)} {w : Wd} {d : Nat} {x1 x2 x3 x4 : Int32} {w1 : Wd} {v1 : Int32} {w' : Wd} (hd : 1 ≤ d) (h1 : Ev (d - 1) 77 (ent0 77 [.ref 1, .int x1, .int x2, .int x3, .int x4] (hp E w)) (.inl (some (.int v1)), hp E w1)) (qw : (so1 ((v1).toInt64) w1) = w') : Ev d 146 (ent0 146 [.ref 1, .int x1, .int x2, .int x3, .int x4, .ref 37] (hp E w)) (.inl (some (.int (0 : Int32))), hp E w') := by
  subst qw
  refine Ev.run (c' := (9, [.ref 1, .int x1, .int x2, .int x3, .int x4, .ref 37, jk], [.int x4, .int x3, .int x2, .int x1, .ref 1, .int (0 : Int32), .ref 37], hp E w)) hM_146 7 rfl ?_
  refine Ev.callR hd hM_146 rfl (y := 77) (as := [.ref 1, .int x1, .int x2, .int x3, .int x4]) (rest := [.int (0 : Int32), .ref 37]) rfl (Nat.le_of_ble_eq_true rfl) h1 ?_
  refine Ev.run (c' := (26, [.ref 1, .int x1, .int x2, .int x3, .int x4, .ref 37, jk], [.int (0 : Int32)], hp E (so1 ((v1).toInt64) w1))) hM_146 4 rfl ?_
  exact Ev.fin hM_146 rfl rfl
theorem hM_147 : mAt 147 = some km_L_step := rfl
theorem p147_e_a {E : Nat × (Nat → Int32)} {w : Wd} {d : Nat} {x1 x2 x3 : Int32} {w1 : Wd} (hd : 1 ≤ d) (h1 : Ev (d - 1) 78 (ent0 78 [.ref 1, .int x1, .int x2, .int x3] (hp E w)) (.inr 2, hp E w1)) : Ev d 147 (ent0 147 [.ref 1, .int x1, .int x2, .int x3, .ref 37] (hp E w)) (.inl (some (.int (1 : Int32))), hp E w1) := by
  refine Ev.run (c' := (7, [.ref 1, .int x1, .int x2, .int x3, .ref 37, jk], [.int x3, .int x2, .int x1, .ref 1, .int (0 : Int32), .ref 37], hp E w)) hM_147 6 rfl ?_
  refine Ev.catchR hd hM_147 rfl (y := 78) (as := [.ref 1, .int x1, .int x2, .int x3]) (rest := [.int (0 : Int32), .ref 37]) rfl (by decide) rfl (hpc := 15) rfl (q := (17, 5)) rfl (Nat.le_of_ble_eq_true rfl) h1 ?_
  refine Ev.run (c' := (18, [.ref 1, .int x1, .int x2, .int x3, .ref 37, jk], [.int (1 : Int32)], hp E w1)) hM_147 1 rfl ?_
  exact Ev.fin hM_147 rfl rfl
theorem p147_e_b {E : Nat × (Nat → Int32)} {w : Wd} {d : Nat} {x1 x2 x3 : Int32} {w1 : Wd} {v1 : Int32} {w' : Wd} (hd : 1 ≤ d) (h1 : Ev (d - 1) 78 (ent0 78 [.ref 1, .int x1, .int x2, .int x3] (hp E w)) (.inl (some (.int v1)), hp E w1)) (qw : (so1 ((v1).toInt64) w1) = w') : Ev d 147 (ent0 147 [.ref 1, .int x1, .int x2, .int x3, .ref 37] (hp E w)) (.inl (some (.int (0 : Int32))), hp E w') := by
  subst qw
  refine Ev.run (c' := (7, [.ref 1, .int x1, .int x2, .int x3, .ref 37, jk], [.int x3, .int x2, .int x1, .ref 1, .int (0 : Int32), .ref 37], hp E w)) hM_147 6 rfl ?_
  refine Ev.callR hd hM_147 rfl (y := 78) (as := [.ref 1, .int x1, .int x2, .int x3]) (rest := [.int (0 : Int32), .ref 37]) rfl (Nat.le_of_ble_eq_true rfl) h1 ?_
  refine Ev.run (c' := (20, [.ref 1, .int x1, .int x2, .int x3, .ref 37, jk], [.int (0 : Int32)], hp E (so1 ((v1).toInt64) w1))) hM_147 4 rfl ?_
  exact Ev.fin hM_147 rfl rfl
theorem hM_148 : mAt 148 = some km_L_away := rfl
theorem p148_e_a {E : Nat × (Nat → Int32)} {w : Wd} {d : Nat} {x1 x2 x3 : Int32} {w1 : Wd} (hd : 1 ≤ d) (h1 : Ev (d - 1) 79 (ent0 79 [.ref 1, .int x1, .int x2, .int x3] (hp E w)) (.inr 2, hp E w1)) : Ev d 148 (ent0 148 [.ref 1, .int x1, .int x2, .int x3, .ref 37] (hp E w)) (.inl (some (.int (1 : Int32))), hp E w1) := by
  refine Ev.run (c' := (7, [.ref 1, .int x1, .int x2, .int x3, .ref 37, jk], [.int x3, .int x2, .int x1, .ref 1, .int (0 : Int32), .ref 37], hp E w)) hM_148 6 rfl ?_
  refine Ev.catchR hd hM_148 rfl (y := 79) (as := [.ref 1, .int x1, .int x2, .int x3]) (rest := [.int (0 : Int32), .ref 37]) rfl (by decide) rfl (hpc := 15) rfl (q := (17, 5)) rfl (Nat.le_of_ble_eq_true rfl) h1 ?_
  refine Ev.run (c' := (18, [.ref 1, .int x1, .int x2, .int x3, .ref 37, jk], [.int (1 : Int32)], hp E w1)) hM_148 1 rfl ?_
  exact Ev.fin hM_148 rfl rfl
theorem p148_e_b {E : Nat × (Nat → Int32)} {w : Wd} {d : Nat} {x1 x2 x3 : Int32} {w1 : Wd} {v1 : Int32} {w' : Wd} (hd : 1 ≤ d) (h1 : Ev (d - 1) 79 (ent0 79 [.ref 1, .int x1, .int x2, .int x3] (hp E w)) (.inl (some (.int v1)), hp E w1)) (qw : (so1 ((v1).toInt64) w1) = w') : Ev d 148 (ent0 148 [.ref 1, .int x1, .int x2, .int x3, .ref 37] (hp E w)) (.inl (some (.int (0 : Int32))), hp E w') := by
  subst qw
  refine Ev.run (c' := (7, [.ref 1, .int x1, .int x2, .int x3, .ref 37, jk], [.int x3, .int x2, .int x1, .ref 1, .int (0 : Int32), .ref 37], hp E w)) hM_148 6 rfl ?_
  refine Ev.callR hd hM_148 rfl (y := 79) (as := [.ref 1, .int x1, .int x2, .int x3]) (rest := [.int (0 : Int32), .ref 37]) rfl (Nat.le_of_ble_eq_true rfl) h1 ?_
  refine Ev.run (c' := (20, [.ref 1, .int x1, .int x2, .int x3, .ref 37, jk], [.int (0 : Int32)], hp E (so1 ((v1).toInt64) w1))) hM_148 4 rfl ?_
  exact Ev.fin hM_148 rfl rfl
theorem hM_149 : mAt 149 = some km_L_catches := rfl
theorem p149_e_a {E : Nat × (Nat → Int32)} {w : Wd} {d : Nat} {x1 : Int32} {w1 : Wd} (hd : 1 ≤ d) (h1 : Ev (d - 1) 80 (ent0 80 [.ref 1, .int x1] (hp E w)) (.inr 0, hp E w1)) : Ev d 149 (ent0 149 [.ref 1, .int x1, .ref 37] (hp E w)) (.inl (some (.int (1 : Int32))), hp E w1) := by
  refine Ev.run (c' := (4, [.ref 1, .int x1, .ref 37, jk], [.int x1, .ref 1, .int (0 : Int32), .ref 37], hp E w)) hM_149 4 rfl ?_
  refine Ev.catchR hd hM_149 rfl (y := 80) (as := [.ref 1, .int x1]) (rest := [.int (0 : Int32), .ref 37]) rfl (by decide) rfl (hpc := 19) rfl (q := (20, 3)) rfl (Nat.le_of_ble_eq_true rfl) h1 ?_
  refine Ev.run (c' := (21, [.ref 1, .int x1, .ref 37, jk], [.int (1 : Int32)], hp E w1)) hM_149 1 rfl ?_
  exact Ev.fin hM_149 rfl rfl
theorem p149_e_b {E : Nat × (Nat → Int32)} {w : Wd} {d : Nat} {x1 : Int32} {w1 : Wd} {v1 : Int32} {w' : Wd} (hd : 1 ≤ d) (h1 : Ev (d - 1) 80 (ent0 80 [.ref 1, .int x1] (hp E w)) (.inl (some (.int v1)), hp E w1)) (c1 : ¬ v1 = 0) (qw : (so1 (1 : Int64) w1) = w') : Ev d 149 (ent0 149 [.ref 1, .int x1, .ref 37] (hp E w)) (.inl (some (.int (0 : Int32))), hp E w') := by
  subst qw
  refine Ev.run (c' := (4, [.ref 1, .int x1, .ref 37, jk], [.int x1, .ref 1, .int (0 : Int32), .ref 37], hp E w)) hM_149 4 rfl ?_
  refine Ev.callR hd hM_149 rfl (y := 80) (as := [.ref 1, .int x1]) (rest := [.int (0 : Int32), .ref 37]) rfl (Nat.le_of_ble_eq_true rfl) h1 ?_
  refine Ev.run (c' := (7, [.ref 1, .int x1, .ref 37, jk], [.int v1, .int (0 : Int32), .ref 37], hp E w1)) hM_149 0 rfl ?_
  refine Ev.ifF hM_149 rfl (cI_eqF c1) ?_
  refine Ev.run (c' := (23, [.ref 1, .int x1, .ref 37, jk], [.int (0 : Int32)], hp E (so1 (1 : Int64) w1))) hM_149 5 rfl ?_
  exact Ev.fin hM_149 rfl rfl
theorem p149_e_c {E : Nat × (Nat → Int32)} {w : Wd} {d : Nat} {x1 : Int32} {w1 : Wd} {v1 : Int32} {w' : Wd} (hd : 1 ≤ d) (h1 : Ev (d - 1) 80 (ent0 80 [.ref 1, .int x1] (hp E w)) (.inl (some (.int v1)), hp E w1)) (c1 : v1 = 0) (qw : (so1 (0 : Int64) w1) = w') : Ev d 149 (ent0 149 [.ref 1, .int x1, .ref 37] (hp E w)) (.inl (some (.int (0 : Int32))), hp E w') := by
  subst qw
  refine Ev.run (c' := (4, [.ref 1, .int x1, .ref 37, jk], [.int x1, .ref 1, .int (0 : Int32), .ref 37], hp E w)) hM_149 4 rfl ?_
  refine Ev.callR hd hM_149 rfl (y := 80) (as := [.ref 1, .int x1]) (rest := [.int (0 : Int32), .ref 37]) rfl (Nat.le_of_ble_eq_true rfl) h1 ?_
  refine Ev.run (c' := (7, [.ref 1, .int x1, .ref 37, jk], [.int v1, .int (0 : Int32), .ref 37], hp E w1)) hM_149 0 rfl ?_
  refine Ev.ifT hM_149 rfl (cI_eqT c1) ?_
  refine Ev.run (c' := (23, [.ref 1, .int x1, .ref 37, jk], [.int (0 : Int32)], hp E (so1 (0 : Int64) w1))) hM_149 4 rfl ?_
  exact Ev.fin hM_149 rfl rfl
theorem hM_150 : mAt 150 = some km_L_huntAnew := rfl
theorem p150_e_a {E : Nat × (Nat → Int32)} {w : Wd} {d : Nat} {x1 : Int32} {w1 : Wd} (hd : 1 ≤ d) (h1 : Ev (d - 1) 84 (ent0 84 [.ref 1, .int x1] (hp E w)) (.inr 0, hp E w1)) : Ev d 150 (ent0 150 [.ref 1, .int x1, .ref 37] (hp E w)) (.inl (some (.int (1 : Int32))), hp E w1) := by
  refine Ev.run (c' := (4, [.ref 1, .int x1, .ref 37, jk], [.int x1, .ref 1, .int (0 : Int32), .ref 37], hp E w)) hM_150 4 rfl ?_
  refine Ev.catchR hd hM_150 rfl (y := 84) (as := [.ref 1, .int x1]) (rest := [.int (0 : Int32), .ref 37]) rfl (by decide) rfl (hpc := 12) rfl (q := (13, 3)) rfl (Nat.le_of_ble_eq_true rfl) h1 ?_
  refine Ev.run (c' := (14, [.ref 1, .int x1, .ref 37, jk], [.int (1 : Int32)], hp E w1)) hM_150 1 rfl ?_
  exact Ev.fin hM_150 rfl rfl
theorem p150_e_b {E : Nat × (Nat → Int32)} {w : Wd} {d : Nat} {x1 : Int32} {w1 : Wd} {v1 : Int32} {w' : Wd} (hd : 1 ≤ d) (h1 : Ev (d - 1) 84 (ent0 84 [.ref 1, .int x1] (hp E w)) (.inl (some (.int v1)), hp E w1)) (qw : (so1 ((v1).toInt64) w1) = w') : Ev d 150 (ent0 150 [.ref 1, .int x1, .ref 37] (hp E w)) (.inl (some (.int (0 : Int32))), hp E w') := by
  subst qw
  refine Ev.run (c' := (4, [.ref 1, .int x1, .ref 37, jk], [.int x1, .ref 1, .int (0 : Int32), .ref 37], hp E w)) hM_150 4 rfl ?_
  refine Ev.callR hd hM_150 rfl (y := 84) (as := [.ref 1, .int x1]) (rest := [.int (0 : Int32), .ref 37]) rfl (Nat.le_of_ble_eq_true rfl) h1 ?_
  refine Ev.run (c' := (16, [.ref 1, .int x1, .ref 37, jk], [.int (0 : Int32)], hp E (so1 ((v1).toInt64) w1))) hM_150 4 rfl ?_
  exact Ev.fin hM_150 rfl rfl
theorem hM_151 : mAt 151 = some km_L_forced := rfl
theorem p151_e_a {E : Nat × (Nat → Int32)} {w : Wd} {d : Nat} {x1 : Int32} {w1 : Wd} (hd : 1 ≤ d) (h1 : Ev (d - 1) 86 (ent0 86 [.ref 1, .int x1] (hp E w)) (.inr 0, hp E w1)) : Ev d 151 (ent0 151 [.ref 1, .int x1, .ref 37] (hp E w)) (.inl (some (.int (1 : Int32))), hp E w1) := by
  refine Ev.run (c' := (4, [.ref 1, .int x1, .ref 37, jk], [.int x1, .ref 1, .int (0 : Int32), .ref 37], hp E w)) hM_151 4 rfl ?_
  refine Ev.catchR hd hM_151 rfl (y := 86) (as := [.ref 1, .int x1]) (rest := [.int (0 : Int32), .ref 37]) rfl (by decide) rfl (hpc := 12) rfl (q := (13, 3)) rfl (Nat.le_of_ble_eq_true rfl) h1 ?_
  refine Ev.run (c' := (14, [.ref 1, .int x1, .ref 37, jk], [.int (1 : Int32)], hp E w1)) hM_151 1 rfl ?_
  exact Ev.fin hM_151 rfl rfl
theorem p151_e_b {E : Nat × (Nat → Int32)} {w : Wd} {d : Nat} {x1 : Int32} {w1 : Wd} {v1 : Int32} {w' : Wd} (hd : 1 ≤ d) (h1 : Ev (d - 1) 86 (ent0 86 [.ref 1, .int x1] (hp E w)) (.inl (some (.int v1)), hp E w1)) (qw : (so1 ((v1).toInt64) w1) = w') : Ev d 151 (ent0 151 [.ref 1, .int x1, .ref 37] (hp E w)) (.inl (some (.int (0 : Int32))), hp E w') := by
  subst qw
  refine Ev.run (c' := (4, [.ref 1, .int x1, .ref 37, jk], [.int x1, .ref 1, .int (0 : Int32), .ref 37], hp E w)) hM_151 4 rfl ?_
  refine Ev.callR hd hM_151 rfl (y := 86) (as := [.ref 1, .int x1]) (rest := [.int (0 : Int32), .ref 37]) rfl (Nat.le_of_ble_eq_true rfl) h1 ?_
  refine Ev.run (c' := (16, [.ref 1, .int x1, .ref 37, jk], [.int (0 : Int32)], hp E (so1 ((v1).toInt64) w1))) hM_151 4 rfl ?_
  exact Ev.fin hM_151 rfl rfl
theorem hM_152 : mAt 152 = some km_L_rounds := rfl
theorem p152_e_a {E : Nat × (Nat → Int32)} {w : Wd} {d : Nat} {x1 : Int32} {w1 : Wd} (hd : 1 ≤ d) (h1 : Ev (d - 1) 87 (ent0 87 [.ref 1, .int x1] (hp E w)) (.inr 0, hp E w1)) : Ev d 152 (ent0 152 [.ref 1, .int x1, .ref 37] (hp E w)) (.inl (some (.int (1 : Int32))), hp E w1) := by
  refine Ev.run (c' := (4, [.ref 1, .int x1, .ref 37, jk], [.int x1, .ref 1, .int (0 : Int32), .ref 37], hp E w)) hM_152 4 rfl ?_
  refine Ev.catchR hd hM_152 rfl (y := 87) (as := [.ref 1, .int x1]) (rest := [.int (0 : Int32), .ref 37]) rfl (by decide) rfl (hpc := 12) rfl (q := (13, 3)) rfl (Nat.le_of_ble_eq_true rfl) h1 ?_
  refine Ev.run (c' := (14, [.ref 1, .int x1, .ref 37, jk], [.int (1 : Int32)], hp E w1)) hM_152 1 rfl ?_
  exact Ev.fin hM_152 rfl rfl
theorem p152_e_b {E : Nat × (Nat → Int32)} {w : Wd} {d : Nat} {x1 : Int32} {w1 : Wd} {v1 : Int32} {w' : Wd} (hd : 1 ≤ d) (h1 : Ev (d - 1) 87 (ent0 87 [.ref 1, .int x1] (hp E w)) (.inl (some (.int v1)), hp E w1)) (qw : (so1 ((v1).toInt64) w1) = w') : Ev d 152 (ent0 152 [.ref 1, .int x1, .ref 37] (hp E w)) (.inl (some (.int (0 : Int32))), hp E w') := by
  subst qw
  refine Ev.run (c' := (4, [.ref 1, .int x1, .ref 37, jk], [.int x1, .ref 1, .int (0 : Int32), .ref 37], hp E w)) hM_152 4 rfl ?_
  refine Ev.callR hd hM_152 rfl (y := 87) (as := [.ref 1, .int x1]) (rest := [.int (0 : Int32), .ref 37]) rfl (Nat.le_of_ble_eq_true rfl) h1 ?_
  refine Ev.run (c' := (16, [.ref 1, .int x1, .ref 37, jk], [.int (0 : Int32)], hp E (so1 ((v1).toInt64) w1))) hM_152 4 rfl ?_
  exact Ev.fin hM_152 rfl rfl
theorem hM_153 : mAt 153 = some km_L_law := rfl
theorem p153_23_a {E : Nat × (Nat → Int32)} {w : Wd} {d : Nat} {x4 : Int32} {u5 u6 : Value} {o : Ou} {j1 : Nat} {y4 : Int32} (c1 : ¬ ((I E.1) - (5 : Int32)) < x4) (g1 : x4 = I j1) (b1 : j1 < E.1) (bE : E.1 ≤ 2147483648) (c2 : decide (((E.2 j1) &&& (31 : Int32)).toInt < 0 ∨ 19 < ((E.2 j1) &&& (31 : Int32)).toInt) = true) (q4 : ((I j1) + (5 : Int32)) = y4) (e : Ev d 153 (23, [.ref 0, .ref 1, .ref 27, .ref 37, .int y4, u5, u6], [], hp E w) o) : Ev d 153 (23, [.ref 0, .ref 1, .ref 27, .ref 37, .int x4, u5, u6], [], hp E w) o := by
  subst q4
  refine Ev.run (c' := (29, [.ref 0, .ref 1, .ref 27, .ref 37, .int x4, u5, u6], [.int ((I E.1) - (5 : Int32)), .int x4], hp E w)) hM_153 5 rfl ?_
  refine Ev.icF hM_153 rfl (cI_gtF c1) ?_
  refine Ev.run (c' := (35, [.ref 0, .ref 1, .ref 27, .ref 37, .int x4, u5, u6], [.int x4, .ref 0], hp E w)) hM_153 2 rfl ?_
  subst g1
  refine Ev.iald hM_153 rfl (a := 0) rfl (inb_I b1 bE) ?_
  rw [I_clamp (Nat.lt_of_lt_of_le b1 bE)]
  refine Ev.run (c' := (39, [.ref 0, .ref 1, .ref 27, .ref 37, .int (I j1), u5, u6], [.int ((E.2 j1) &&& (31 : Int32))], hp E w)) hM_153 2 rfl ?_
  refine Ev.tswD hM_153 rfl c2 ?_
  refine Ev.run (c' := (23, [.ref 0, .ref 1, .ref 27, .ref 37, .int ((I j1) + (5 : Int32)), u5, u6], [], hp E w)) hM_153 2 rfl ?_
  exact e
theorem p153_23_b {E : Nat × (Nat → Int32)} {w : Wd} {d : Nat} {x4 : Int32} {u5 u6 : Value} {o : Ou} {j1 : Nat} {w1 : Wd} {v1 : Int32} {w2 : Wd} {v2 : Int32} {y4 : Int32} (hd : 1 ≤ d) (c1 : ¬ ((I E.1) - (5 : Int32)) < x4) (g1 : x4 = I j1) (b1 : j1 < E.1) (bE : E.1 ≤ 2147483648) (c2 : ((E.2 j1) &&& (31 : Int32)) = (19 : Int32)) (h1 : Ev (d - 1) 88 (ent0 88 [.ref 1] (hp E w)) (.inl (some (.int v1)), hp E w1)) (h2 : Ev (d - 1) 137 (ent0 137 [.ref 27] (hp E w1)) (.inl (some (.int v2)), hp E w2)) (c3 : v1 = v2) (q4 : ((I j1) + (5 : Int32)) = y4) (e : Ev d 153 (23, [.ref 0, .ref 1, .ref 27, .ref 37, .int y4, u5, u6], [], hp E w2) o) : Ev d 153 (23, [.ref 0, .ref 1, .ref 27, .ref 37, .int x4, u5, u6], [], hp E w) o := by
  subst q4
  refine Ev.run (c' := (29, [.ref 0, .ref 1, .ref 27, .ref 37, .int x4, u5, u6], [.int ((I E.1) - (5 : Int32)), .int x4], hp E w)) hM_153 5 rfl ?_
  refine Ev.icF hM_153 rfl (cI_gtF c1) ?_
  refine Ev.run (c' := (35, [.ref 0, .ref 1, .ref 27, .ref 37, .int x4, u5, u6], [.int x4, .ref 0], hp E w)) hM_153 2 rfl ?_
  subst g1
  refine Ev.iald hM_153 rfl (a := 0) rfl (inb_I b1 bE) ?_
  rw [I_clamp (Nat.lt_of_lt_of_le b1 bE)]
  refine Ev.run (c' := (39, [.ref 0, .ref 1, .ref 27, .ref 37, .int (I j1), u5, u6], [.int ((E.2 j1) &&& (31 : Int32))], hp E w)) hM_153 2 rfl ?_
  rw [c2]
  refine Ev.run (c' := (1132, [.ref 0, .ref 1, .ref 27, .ref 37, .int (I j1), u5, u6], [.ref 1], hp E w)) hM_153 2 rfl ?_
  refine Ev.callR hd hM_153 rfl (y := 88) (as := [.ref 1]) (rest := []) rfl (Nat.le_of_ble_eq_true rfl) h1 ?_
  refine Ev.run (c' := (1136, [.ref 0, .ref 1, .ref 27, .ref 37, .int (I j1), u5, u6], [.ref 27, .int v1], hp E w1)) hM_153 1 rfl ?_
  refine Ev.callR hd hM_153 rfl (y := 137) (as := [.ref 27]) (rest := [.int v1]) rfl (Nat.le_of_ble_eq_true rfl) h2 ?_
  refine Ev.run (c' := (1139, [.ref 0, .ref 1, .ref 27, .ref 37, .int (I j1), u5, u6], [.int v2, .int v1], hp E w2)) hM_153 0 rfl ?_
  refine Ev.icT hM_153 rfl (cI_eqT c3) ?_
  refine Ev.run (c' := (23, [.ref 0, .ref 1, .ref 27, .ref 37, .int ((I j1) + (5 : Int32)), u5, u6], [], hp E w2)) hM_153 2 rfl ?_
  exact e
theorem p153_23_c {E : Nat × (Nat → Int32)} {w : Wd} {d : Nat} {x4 : Int32} {u5 u6 : Value} {o : Ou} {j1 : Nat} {j2 : Nat} {z1 : Int32} {w1 : Wd} {v1 : Int32} {j3 : Nat} {z2 : Int32} {w2 : Wd} {v2 : Int32} {y4 : Int32} (hd : 1 ≤ d) (c1 : ¬ ((I E.1) - (5 : Int32)) < x4) (g1 : x4 = I j1) (b1 : j1 < E.1) (bE : E.1 ≤ 2147483648) (c2 : ((E.2 j1) &&& (31 : Int32)) = (18 : Int32)) (g2 : ((I j1) + (1 : Int32)) = I j2) (b2 : j2 < E.1) (a1 : (E.2 j2) = z1) (h1 : Ev (d - 1) 152 (ent0 152 [.ref 1, .int z1, .ref 37] (hp E w)) (.inl (some (.int v1)), hp E w1)) (g3 : ((I j1) + (1 : Int32)) = I j3) (b3 : j3 < E.1) (a2 : (E.2 j3) = z2) (h2 : Ev (d - 1) 136 (ent0 136 [.ref 27, .int z2] (hp E w1)) (.inl (some (.int v2)), hp E w2)) (c3 : (gF w2 8) = v1) (c4 : v1 = 0) (c5 : (lg_cmp (gO w2) ((v2).toInt64)) = 0) (q4 : ((I j1) + (5 : Int32)) = y4) (e : Ev d 153 (23, [.ref 0, .ref 1, .ref 27, .ref 37, .int y4, .int v1, .int v2], [], hp E w2) o) : Ev d 153 (23, [.ref 0, .ref 1, .ref 27, .ref 37, .int x4, u5, u6], [], hp E w) o := by
  subst q4
  refine Ev.run (c' := (29, [.ref 0, .ref 1, .ref 27, .ref 37, .int x4, u5, u6], [.int ((I E.1) - (5 : Int32)), .int x4], hp E w)) hM_153 5 rfl ?_
  refine Ev.icF hM_153 rfl (cI_gtF c1) ?_
  refine Ev.run (c' := (35, [.ref 0, .ref 1, .ref 27, .ref 37, .int x4, u5, u6], [.int x4, .ref 0], hp E w)) hM_153 2 rfl ?_
  subst g1
  refine Ev.iald hM_153 rfl (a := 0) rfl (inb_I b1 bE) ?_
  rw [I_clamp (Nat.lt_of_lt_of_le b1 bE)]
  refine Ev.run (c' := (39, [.ref 0, .ref 1, .ref 27, .ref 37, .int (I j1), u5, u6], [.int ((E.2 j1) &&& (31 : Int32))], hp E w)) hM_153 2 rfl ?_
  rw [c2]
  refine Ev.run (c' := (1081, [.ref 0, .ref 1, .ref 27, .ref 37, .int (I j1), u5, u6], [.int ((I j1) + (1 : Int32)), .ref 0, .ref 1], hp E w)) hM_153 6 rfl ?_
  rw [g2]
  refine Ev.iald hM_153 rfl (a := 0) rfl (inb_I b2 bE) ?_
  rw [I_clamp (Nat.lt_of_lt_of_le b2 bE)]
  refine Ev.run (c' := (1083, [.ref 0, .ref 1, .ref 27, .ref 37, .int (I j1), u5, u6], [.ref 37, .int (E.2 j2), .ref 1], hp E w)) hM_153 1 rfl ?_
  rw [← a1] at h1
  refine Ev.callR hd hM_153 rfl (y := 152) (as := [.ref 1, .int (E.2 j2), .ref 37]) (rest := []) rfl (Nat.le_of_ble_eq_true rfl) h1 ?_
  refine Ev.run (c' := (1094, [.ref 0, .ref 1, .ref 27, .ref 37, .int (I j1), .int v1, u6], [.int ((I j1) + (1 : Int32)), .ref 0, .ref 27], hp E w1)) hM_153 6 rfl ?_
  rw [g3]
  refine Ev.iald hM_153 rfl (a := 0) rfl (inb_I b3 bE) ?_
  rw [I_clamp (Nat.lt_of_lt_of_le b3 bE)]
  refine Ev.run (c' := (1095, [.ref 0, .ref 1, .ref 27, .ref 37, .int (I j1), .int v1, u6], [.int (E.2 j3), .ref 27], hp E w1)) hM_153 0 rfl ?_
  rw [← a2] at h2
  refine Ev.callR hd hM_153 rfl (y := 136) (as := [.ref 27, .int (E.2 j3)]) (rest := []) rfl (Nat.le_of_ble_eq_true rfl) h2 ?_
  refine Ev.run (c' := (1101, [.ref 0, .ref 1, .ref 27, .ref 37, .int (I j1), .int v1, .int v2], [.ref 27], hp E w2)) hM_153 2 rfl ?_
  refine Ev.callR hd hM_153 rfl (y := 96) (as := [.ref 27]) (rest := []) rfl (Nat.le_of_ble_eq_true rfl) (Ev.run (c' := (4, [.ref 27], [.int (gF w2 8)], hp E w2)) hM_96 2 rfl (Ev.fin hM_96 rfl rfl)) ?_
  refine Ev.run (c' := (1106, [.ref 0, .ref 1, .ref 27, .ref 37, .int (I j1), .int v1, .int v2], [.int v1, .int (gF w2 8)], hp E w2)) hM_153 1 rfl ?_
  refine Ev.icT hM_153 rfl (cI_eqT c3) ?_
  refine Ev.run (c' := (1113, [.ref 0, .ref 1, .ref 27, .ref 37, .int (I j1), .int v1, .int v2], [.int v1], hp E w2)) hM_153 1 rfl ?_
  refine Ev.ifF hM_153 rfl (cI_neF c4) ?_
  refine Ev.run (c' := (1123, [.ref 0, .ref 1, .ref 27, .ref 37, .int (I j1), .int v1, .int v2], [.int (lg_cmp (gO w2) ((v2).toInt64))], hp E w2)) hM_153 6 rfl ?_
  refine Ev.ifT hM_153 rfl (cI_eqT c5) ?_
  refine Ev.run (c' := (23, [.ref 0, .ref 1, .ref 27, .ref 37, .int ((I j1) + (5 : Int32)), .int v1, .int v2], [], hp E w2)) hM_153 3 rfl ?_
  exact e
theorem p153_23_d {E : Nat × (Nat → Int32)} {w : Wd} {d : Nat} {x4 : Int32} {u5 u6 : Value} {o : Ou} {j1 : Nat} {j2 : Nat} {z1 : Int32} {w1 : Wd} {v1 : Int32} {j3 : Nat} {z2 : Int32} {w2 : Wd} {v2 : Int32} {y4 : Int32} (hd : 1 ≤ d) (c1 : ¬ ((I E.1) - (5 : Int32)) < x4) (g1 : x4 = I j1) (b1 : j1 < E.1) (bE : E.1 ≤ 2147483648) (c2 : ((E.2 j1) &&& (31 : Int32)) = (18 : Int32)) (g2 : ((I j1) + (1 : Int32)) = I j2) (b2 : j2 < E.1) (a1 : (E.2 j2) = z1) (h1 : Ev (d - 1) 152 (ent0 152 [.ref 1, .int z1, .ref 37] (hp E w)) (.inl (some (.int v1)), hp E w1)) (g3 : ((I j1) + (1 : Int32)) = I j3) (b3 : j3 < E.1) (a2 : (E.2 j3) = z2) (h2 : Ev (d - 1) 136 (ent0 136 [.ref 27, .int z2] (hp E w1)) (.inl (some (.int v2)), hp E w2)) (c3 : (gF w2 8) = v1) (c4 : ¬ v1 = 0) (q4 : ((I j1) + (5 : Int32)) = y4) (e : Ev d 153 (23, [.ref 0, .ref 1, .ref 27, .ref 37, .int y4, .int v1, .int v2], [], hp E w2) o) : Ev d 153 (23, [.ref 0, .ref 1, .ref 27, .ref 37, .int x4, u5, u6], [], hp E w) o := by
  subst q4
  refine Ev.run (c' := (29, [.ref 0, .ref 1, .ref 27, .ref 37, .int x4, u5, u6], [.int ((I E.1) - (5 : Int32)), .int x4], hp E w)) hM_153 5 rfl ?_
  refine Ev.icF hM_153 rfl (cI_gtF c1) ?_
  refine Ev.run (c' := (35, [.ref 0, .ref 1, .ref 27, .ref 37, .int x4, u5, u6], [.int x4, .ref 0], hp E w)) hM_153 2 rfl ?_
  subst g1
  refine Ev.iald hM_153 rfl (a := 0) rfl (inb_I b1 bE) ?_
  rw [I_clamp (Nat.lt_of_lt_of_le b1 bE)]
  refine Ev.run (c' := (39, [.ref 0, .ref 1, .ref 27, .ref 37, .int (I j1), u5, u6], [.int ((E.2 j1) &&& (31 : Int32))], hp E w)) hM_153 2 rfl ?_
  rw [c2]
  refine Ev.run (c' := (1081, [.ref 0, .ref 1, .ref 27, .ref 37, .int (I j1), u5, u6], [.int ((I j1) + (1 : Int32)), .ref 0, .ref 1], hp E w)) hM_153 6 rfl ?_
  rw [g2]
  refine Ev.iald hM_153 rfl (a := 0) rfl (inb_I b2 bE) ?_
  rw [I_clamp (Nat.lt_of_lt_of_le b2 bE)]
  refine Ev.run (c' := (1083, [.ref 0, .ref 1, .ref 27, .ref 37, .int (I j1), u5, u6], [.ref 37, .int (E.2 j2), .ref 1], hp E w)) hM_153 1 rfl ?_
  rw [← a1] at h1
  refine Ev.callR hd hM_153 rfl (y := 152) (as := [.ref 1, .int (E.2 j2), .ref 37]) (rest := []) rfl (Nat.le_of_ble_eq_true rfl) h1 ?_
  refine Ev.run (c' := (1094, [.ref 0, .ref 1, .ref 27, .ref 37, .int (I j1), .int v1, u6], [.int ((I j1) + (1 : Int32)), .ref 0, .ref 27], hp E w1)) hM_153 6 rfl ?_
  rw [g3]
  refine Ev.iald hM_153 rfl (a := 0) rfl (inb_I b3 bE) ?_
  rw [I_clamp (Nat.lt_of_lt_of_le b3 bE)]
  refine Ev.run (c' := (1095, [.ref 0, .ref 1, .ref 27, .ref 37, .int (I j1), .int v1, u6], [.int (E.2 j3), .ref 27], hp E w1)) hM_153 0 rfl ?_
  rw [← a2] at h2
  refine Ev.callR hd hM_153 rfl (y := 136) (as := [.ref 27, .int (E.2 j3)]) (rest := []) rfl (Nat.le_of_ble_eq_true rfl) h2 ?_
  refine Ev.run (c' := (1101, [.ref 0, .ref 1, .ref 27, .ref 37, .int (I j1), .int v1, .int v2], [.ref 27], hp E w2)) hM_153 2 rfl ?_
  refine Ev.callR hd hM_153 rfl (y := 96) (as := [.ref 27]) (rest := []) rfl (Nat.le_of_ble_eq_true rfl) (Ev.run (c' := (4, [.ref 27], [.int (gF w2 8)], hp E w2)) hM_96 2 rfl (Ev.fin hM_96 rfl rfl)) ?_
  refine Ev.run (c' := (1106, [.ref 0, .ref 1, .ref 27, .ref 37, .int (I j1), .int v1, .int v2], [.int v1, .int (gF w2 8)], hp E w2)) hM_153 1 rfl ?_
  refine Ev.icT hM_153 rfl (cI_eqT c3) ?_
  refine Ev.run (c' := (1113, [.ref 0, .ref 1, .ref 27, .ref 37, .int (I j1), .int v1, .int v2], [.int v1], hp E w2)) hM_153 1 rfl ?_
  refine Ev.ifT hM_153 rfl (cI_neT c4) ?_
  refine Ev.run (c' := (23, [.ref 0, .ref 1, .ref 27, .ref 37, .int ((I j1) + (5 : Int32)), .int v1, .int v2], [], hp E w2)) hM_153 3 rfl ?_
  exact e
theorem p153_23_e {E : Nat × (Nat → Int32)} {w : Wd} {d : Nat} {x4 : Int32} {u5 u6 : Value} {o : Ou} {j1 : Nat} {j2 : Nat} {z1 : Int32} {w1 : Wd} {v1 : Int32} {j3 : Nat} {z2 : Int32} {w2 : Wd} {v2 : Int32} {y4 : Int32} (hd : 1 ≤ d) (c1 : ¬ ((I E.1) - (5 : Int32)) < x4) (g1 : x4 = I j1) (b1 : j1 < E.1) (bE : E.1 ≤ 2147483648) (c2 : ((E.2 j1) &&& (31 : Int32)) = (17 : Int32)) (g2 : ((I j1) + (1 : Int32)) = I j2) (b2 : j2 < E.1) (a1 : (E.2 j2) = z1) (h1 : Ev (d - 1) 151 (ent0 151 [.ref 1, .int z1, .ref 37] (hp E w)) (.inl (some (.int v1)), hp E w1)) (g3 : ((I j1) + (1 : Int32)) = I j3) (b3 : j3 < E.1) (a2 : (E.2 j3) = z2) (h2 : Ev (d - 1) 135 (ent0 135 [.ref 27, .int z2] (hp E w1)) (.inl (some (.int v2)), hp E w2)) (c3 : (gF w2 8) = v1) (c4 : v1 = 0) (c5 : (lg_cmp (gO w2) ((v2).toInt64)) = 0) (q4 : ((I j1) + (5 : Int32)) = y4) (e : Ev d 153 (23, [.ref 0, .ref 1, .ref 27, .ref 37, .int y4, .int v1, .int v2], [], hp E w2) o) : Ev d 153 (23, [.ref 0, .ref 1, .ref 27, .ref 37, .int x4, u5, u6], [], hp E w) o := by
  subst q4
  refine Ev.run (c' := (29, [.ref 0, .ref 1, .ref 27, .ref 37, .int x4, u5, u6], [.int ((I E.1) - (5 : Int32)), .int x4], hp E w)) hM_153 5 rfl ?_
  refine Ev.icF hM_153 rfl (cI_gtF c1) ?_
  refine Ev.run (c' := (35, [.ref 0, .ref 1, .ref 27, .ref 37, .int x4, u5, u6], [.int x4, .ref 0], hp E w)) hM_153 2 rfl ?_
  subst g1
  refine Ev.iald hM_153 rfl (a := 0) rfl (inb_I b1 bE) ?_
  rw [I_clamp (Nat.lt_of_lt_of_le b1 bE)]
  refine Ev.run (c' := (39, [.ref 0, .ref 1, .ref 27, .ref 37, .int (I j1), u5, u6], [.int ((E.2 j1) &&& (31 : Int32))], hp E w)) hM_153 2 rfl ?_
  rw [c2]
  refine Ev.run (c' := (1025, [.ref 0, .ref 1, .ref 27, .ref 37, .int (I j1), u5, u6], [.int ((I j1) + (1 : Int32)), .ref 0, .ref 1], hp E w)) hM_153 6 rfl ?_
  rw [g2]
  refine Ev.iald hM_153 rfl (a := 0) rfl (inb_I b2 bE) ?_
  rw [I_clamp (Nat.lt_of_lt_of_le b2 bE)]
  refine Ev.run (c' := (1027, [.ref 0, .ref 1, .ref 27, .ref 37, .int (I j1), u5, u6], [.ref 37, .int (E.2 j2), .ref 1], hp E w)) hM_153 1 rfl ?_
  rw [← a1] at h1
  refine Ev.callR hd hM_153 rfl (y := 151) (as := [.ref 1, .int (E.2 j2), .ref 37]) (rest := []) rfl (Nat.le_of_ble_eq_true rfl) h1 ?_
  refine Ev.run (c' := (1038, [.ref 0, .ref 1, .ref 27, .ref 37, .int (I j1), .int v1, u6], [.int ((I j1) + (1 : Int32)), .ref 0, .ref 27], hp E w1)) hM_153 6 rfl ?_
  rw [g3]
  refine Ev.iald hM_153 rfl (a := 0) rfl (inb_I b3 bE) ?_
  rw [I_clamp (Nat.lt_of_lt_of_le b3 bE)]
  refine Ev.run (c' := (1039, [.ref 0, .ref 1, .ref 27, .ref 37, .int (I j1), .int v1, u6], [.int (E.2 j3), .ref 27], hp E w1)) hM_153 0 rfl ?_
  rw [← a2] at h2
  refine Ev.callR hd hM_153 rfl (y := 135) (as := [.ref 27, .int (E.2 j3)]) (rest := []) rfl (Nat.le_of_ble_eq_true rfl) h2 ?_
  refine Ev.run (c' := (1045, [.ref 0, .ref 1, .ref 27, .ref 37, .int (I j1), .int v1, .int v2], [.ref 27], hp E w2)) hM_153 2 rfl ?_
  refine Ev.callR hd hM_153 rfl (y := 96) (as := [.ref 27]) (rest := []) rfl (Nat.le_of_ble_eq_true rfl) (Ev.run (c' := (4, [.ref 27], [.int (gF w2 8)], hp E w2)) hM_96 2 rfl (Ev.fin hM_96 rfl rfl)) ?_
  refine Ev.run (c' := (1050, [.ref 0, .ref 1, .ref 27, .ref 37, .int (I j1), .int v1, .int v2], [.int v1, .int (gF w2 8)], hp E w2)) hM_153 1 rfl ?_
  refine Ev.icT hM_153 rfl (cI_eqT c3) ?_
  refine Ev.run (c' := (1057, [.ref 0, .ref 1, .ref 27, .ref 37, .int (I j1), .int v1, .int v2], [.int v1], hp E w2)) hM_153 1 rfl ?_
  refine Ev.ifF hM_153 rfl (cI_neF c4) ?_
  refine Ev.run (c' := (1067, [.ref 0, .ref 1, .ref 27, .ref 37, .int (I j1), .int v1, .int v2], [.int (lg_cmp (gO w2) ((v2).toInt64))], hp E w2)) hM_153 6 rfl ?_
  refine Ev.ifT hM_153 rfl (cI_eqT c5) ?_
  refine Ev.run (c' := (23, [.ref 0, .ref 1, .ref 27, .ref 37, .int ((I j1) + (5 : Int32)), .int v1, .int v2], [], hp E w2)) hM_153 3 rfl ?_
  exact e
theorem p153_23_f {E : Nat × (Nat → Int32)} {w : Wd} {d : Nat} {x4 : Int32} {u5 u6 : Value} {o : Ou} {j1 : Nat} {j2 : Nat} {z1 : Int32} {w1 : Wd} {v1 : Int32} {j3 : Nat} {z2 : Int32} {w2 : Wd} {v2 : Int32} {y4 : Int32} (hd : 1 ≤ d) (c1 : ¬ ((I E.1) - (5 : Int32)) < x4) (g1 : x4 = I j1) (b1 : j1 < E.1) (bE : E.1 ≤ 2147483648) (c2 : ((E.2 j1) &&& (31 : Int32)) = (17 : Int32)) (g2 : ((I j1) + (1 : Int32)) = I j2) (b2 : j2 < E.1) (a1 : (E.2 j2) = z1) (h1 : Ev (d - 1) 151 (ent0 151 [.ref 1, .int z1, .ref 37] (hp E w)) (.inl (some (.int v1)), hp E w1)) (g3 : ((I j1) + (1 : Int32)) = I j3) (b3 : j3 < E.1) (a2 : (E.2 j3) = z2) (h2 : Ev (d - 1) 135 (ent0 135 [.ref 27, .int z2] (hp E w1)) (.inl (some (.int v2)), hp E w2)) (c3 : (gF w2 8) = v1) (c4 : ¬ v1 = 0) (q4 : ((I j1) + (5 : Int32)) = y4) (e : Ev d 153 (23, [.ref 0, .ref 1, .ref 27, .ref 37, .int y4, .int v1, .int v2], [], hp E w2) o) : Ev d 153 (23, [.ref 0, .ref 1, .ref 27, .ref 37, .int x4, u5, u6], [], hp E w) o := by
  subst q4
  refine Ev.run (c' := (29, [.ref 0, .ref 1, .ref 27, .ref 37, .int x4, u5, u6], [.int ((I E.1) - (5 : Int32)), .int x4], hp E w)) hM_153 5 rfl ?_
  refine Ev.icF hM_153 rfl (cI_gtF c1) ?_
  refine Ev.run (c' := (35, [.ref 0, .ref 1, .ref 27, .ref 37, .int x4, u5, u6], [.int x4, .ref 0], hp E w)) hM_153 2 rfl ?_
  subst g1
  refine Ev.iald hM_153 rfl (a := 0) rfl (inb_I b1 bE) ?_
  rw [I_clamp (Nat.lt_of_lt_of_le b1 bE)]
  refine Ev.run (c' := (39, [.ref 0, .ref 1, .ref 27, .ref 37, .int (I j1), u5, u6], [.int ((E.2 j1) &&& (31 : Int32))], hp E w)) hM_153 2 rfl ?_
  rw [c2]
  refine Ev.run (c' := (1025, [.ref 0, .ref 1, .ref 27, .ref 37, .int (I j1), u5, u6], [.int ((I j1) + (1 : Int32)), .ref 0, .ref 1], hp E w)) hM_153 6 rfl ?_
  rw [g2]
  refine Ev.iald hM_153 rfl (a := 0) rfl (inb_I b2 bE) ?_
  rw [I_clamp (Nat.lt_of_lt_of_le b2 bE)]
  refine Ev.run (c' := (1027, [.ref 0, .ref 1, .ref 27, .ref 37, .int (I j1), u5, u6], [.ref 37, .int (E.2 j2), .ref 1], hp E w)) hM_153 1 rfl ?_
  rw [← a1] at h1
  refine Ev.callR hd hM_153 rfl (y := 151) (as := [.ref 1, .int (E.2 j2), .ref 37]) (rest := []) rfl (Nat.le_of_ble_eq_true rfl) h1 ?_
  refine Ev.run (c' := (1038, [.ref 0, .ref 1, .ref 27, .ref 37, .int (I j1), .int v1, u6], [.int ((I j1) + (1 : Int32)), .ref 0, .ref 27], hp E w1)) hM_153 6 rfl ?_
  rw [g3]
  refine Ev.iald hM_153 rfl (a := 0) rfl (inb_I b3 bE) ?_
  rw [I_clamp (Nat.lt_of_lt_of_le b3 bE)]
  refine Ev.run (c' := (1039, [.ref 0, .ref 1, .ref 27, .ref 37, .int (I j1), .int v1, u6], [.int (E.2 j3), .ref 27], hp E w1)) hM_153 0 rfl ?_
  rw [← a2] at h2
  refine Ev.callR hd hM_153 rfl (y := 135) (as := [.ref 27, .int (E.2 j3)]) (rest := []) rfl (Nat.le_of_ble_eq_true rfl) h2 ?_
  refine Ev.run (c' := (1045, [.ref 0, .ref 1, .ref 27, .ref 37, .int (I j1), .int v1, .int v2], [.ref 27], hp E w2)) hM_153 2 rfl ?_
  refine Ev.callR hd hM_153 rfl (y := 96) (as := [.ref 27]) (rest := []) rfl (Nat.le_of_ble_eq_true rfl) (Ev.run (c' := (4, [.ref 27], [.int (gF w2 8)], hp E w2)) hM_96 2 rfl (Ev.fin hM_96 rfl rfl)) ?_
  refine Ev.run (c' := (1050, [.ref 0, .ref 1, .ref 27, .ref 37, .int (I j1), .int v1, .int v2], [.int v1, .int (gF w2 8)], hp E w2)) hM_153 1 rfl ?_
  refine Ev.icT hM_153 rfl (cI_eqT c3) ?_
  refine Ev.run (c' := (1057, [.ref 0, .ref 1, .ref 27, .ref 37, .int (I j1), .int v1, .int v2], [.int v1], hp E w2)) hM_153 1 rfl ?_
  refine Ev.ifT hM_153 rfl (cI_neT c4) ?_
  refine Ev.run (c' := (23, [.ref 0, .ref 1, .ref 27, .ref 37, .int ((I j1) + (5 : Int32)), .int v1, .int v2], [], hp E w2)) hM_153 3 rfl ?_
  exact e
theorem p153_23_g {E : Nat × (Nat → Int32)} {w : Wd} {d : Nat} {x4 : Int32} {u5 u6 : Value} {o : Ou} {j1 : Nat} {w1 : Wd} {v1 : Int32} {w2 : Wd} {v2 : Int32} {y4 : Int32} (hd : 1 ≤ d) (c1 : ¬ ((I E.1) - (5 : Int32)) < x4) (g1 : x4 = I j1) (b1 : j1 < E.1) (bE : E.1 ≤ 2147483648) (c2 : ((E.2 j1) &&& (31 : Int32)) = (16 : Int32)) (h1 : Ev (d - 1) 85 (ent0 85 [.ref 1] (hp E w)) (.inl (some (.int v1)), hp E w1)) (h2 : Ev (d - 1) 131 (ent0 131 [.ref 27] (hp E w1)) (.inl (some (.int v2)), hp E w2)) (c3 : v1 = v2) (q4 : ((I j1) + (5 : Int32)) = y4) (e : Ev d 153 (23, [.ref 0, .ref 1, .ref 27, .ref 37, .int y4, u5, u6], [], hp E w2) o) : Ev d 153 (23, [.ref 0, .ref 1, .ref 27, .ref 37, .int x4, u5, u6], [], hp E w) o := by
  subst q4
  refine Ev.run (c' := (29, [.ref 0, .ref 1, .ref 27, .ref 37, .int x4, u5, u6], [.int ((I E.1) - (5 : Int32)), .int x4], hp E w)) hM_153 5 rfl ?_
  refine Ev.icF hM_153 rfl (cI_gtF c1) ?_
  refine Ev.run (c' := (35, [.ref 0, .ref 1, .ref 27, .ref 37, .int x4, u5, u6], [.int x4, .ref 0], hp E w)) hM_153 2 rfl ?_
  subst g1
  refine Ev.iald hM_153 rfl (a := 0) rfl (inb_I b1 bE) ?_
  rw [I_clamp (Nat.lt_of_lt_of_le b1 bE)]
  refine Ev.run (c' := (39, [.ref 0, .ref 1, .ref 27, .ref 37, .int (I j1), u5, u6], [.int ((E.2 j1) &&& (31 : Int32))], hp E w)) hM_153 2 rfl ?_
  rw [c2]
  refine Ev.run (c' := (1007, [.ref 0, .ref 1, .ref 27, .ref 37, .int (I j1), u5, u6], [.ref 1], hp E w)) hM_153 2 rfl ?_
  refine Ev.callR hd hM_153 rfl (y := 85) (as := [.ref 1]) (rest := []) rfl (Nat.le_of_ble_eq_true rfl) h1 ?_
  refine Ev.run (c' := (1011, [.ref 0, .ref 1, .ref 27, .ref 37, .int (I j1), u5, u6], [.ref 27, .int v1], hp E w1)) hM_153 1 rfl ?_
  refine Ev.callR hd hM_153 rfl (y := 131) (as := [.ref 27]) (rest := [.int v1]) rfl (Nat.le_of_ble_eq_true rfl) h2 ?_
  refine Ev.run (c' := (1014, [.ref 0, .ref 1, .ref 27, .ref 37, .int (I j1), u5, u6], [.int v2, .int v1], hp E w2)) hM_153 0 rfl ?_
  refine Ev.icT hM_153 rfl (cI_eqT c3) ?_
  refine Ev.run (c' := (23, [.ref 0, .ref 1, .ref 27, .ref 37, .int ((I j1) + (5 : Int32)), u5, u6], [], hp E w2)) hM_153 2 rfl ?_
  exact e
theorem p153_23_h {E : Nat × (Nat → Int32)} {w : Wd} {d : Nat} {x4 : Int32} {u5 u6 : Value} {o : Ou} {j1 : Nat} {j2 : Nat} {z1 : Int32} {w1 : Wd} {v1 : Int32} {j3 : Nat} {z2 : Int32} {w2 : Wd} {v2 : Int32} {y4 : Int32} (hd : 1 ≤ d) (c1 : ¬ ((I E.1) - (5 : Int32)) < x4) (g1 : x4 = I j1) (b1 : j1 < E.1) (bE : E.1 ≤ 2147483648) (c2 : ((E.2 j1) &&& (31 : Int32)) = (15 : Int32)) (g2 : ((I j1) + (1 : Int32)) = I j2) (b2 : j2 < E.1) (a1 : (E.2 j2) = z1) (h1 : Ev (d - 1) 150 (ent0 150 [.ref 1, .int z1, .ref 37] (hp E w)) (.inl (some (.int v1)), hp E w1)) (g3 : ((I j1) + (1 : Int32)) = I j3) (b3 : j3 < E.1) (a2 : (E.2 j3) = z2) (h2 : Ev (d - 1) 130 (ent0 130 [.ref 27, .int z2] (hp E w1)) (.inl (some (.int v2)), hp E w2)) (c3 : (gF w2 8) = v1) (c4 : v1 = 0) (c5 : (lg_cmp (gO w2) ((v2).toInt64)) = 0) (q4 : ((I j1) + (5 : Int32)) = y4) (e : Ev d 153 (23, [.ref 0, .ref 1, .ref 27, .ref 37, .int y4, .int v1, .int v2], [], hp E w2) o) : Ev d 153 (23, [.ref 0, .ref 1, .ref 27, .ref 37, .int x4, u5, u6], [], hp E w) o := by
  subst q4
  refine Ev.run (c' := (29, [.ref 0, .ref 1, .ref 27, .ref 37, .int x4, u5, u6], [.int ((I E.1) - (5 : Int32)), .int x4], hp E w)) hM_153 5 rfl ?_
  refine Ev.icF hM_153 rfl (cI_gtF c1) ?_
  refine Ev.run (c' := (35, [.ref 0, .ref 1, .ref 27, .ref 37, .int x4, u5, u6], [.int x4, .ref 0], hp E w)) hM_153 2 rfl ?_
  subst g1
  refine Ev.iald hM_153 rfl (a := 0) rfl (inb_I b1 bE) ?_
  rw [I_clamp (Nat.lt_of_lt_of_le b1 bE)]
  refine Ev.run (c' := (39, [.ref 0, .ref 1, .ref 27, .ref 37, .int (I j1), u5, u6], [.int ((E.2 j1) &&& (31 : Int32))], hp E w)) hM_153 2 rfl ?_
  rw [c2]
  refine Ev.run (c' := (956, [.ref 0, .ref 1, .ref 27, .ref 37, .int (I j1), u5, u6], [.int ((I j1) + (1 : Int32)), .ref 0, .ref 1], hp E w)) hM_153 6 rfl ?_
  rw [g2]
  refine Ev.iald hM_153 rfl (a := 0) rfl (inb_I b2 bE) ?_
  rw [I_clamp (Nat.lt_of_lt_of_le b2 bE)]
  refine Ev.run (c' := (958, [.ref 0, .ref 1, .ref 27, .ref 37, .int (I j1), u5, u6], [.ref 37, .int (E.2 j2), .ref 1], hp E w)) hM_153 1 rfl ?_
  rw [← a1] at h1
  refine Ev.callR hd hM_153 rfl (y := 150) (as := [.ref 1, .int (E.2 j2), .ref 37]) (rest := []) rfl (Nat.le_of_ble_eq_true rfl) h1 ?_
  refine Ev.run (c' := (969, [.ref 0, .ref 1, .ref 27, .ref 37, .int (I j1), .int v1, u6], [.int ((I j1) + (1 : Int32)), .ref 0, .ref 27], hp E w1)) hM_153 6 rfl ?_
  rw [g3]
  refine Ev.iald hM_153 rfl (a := 0) rfl (inb_I b3 bE) ?_
  rw [I_clamp (Nat.lt_of_lt_of_le b3 bE)]
  refine Ev.run (c' := (970, [.ref 0, .ref 1, .ref 27, .ref 37, .int (I j1), .int v1, u6], [.int (E.2 j3), .ref 27], hp E w1)) hM_153 0 rfl ?_
  rw [← a2] at h2
  refine Ev.callR hd hM_153 rfl (y := 130) (as := [.ref 27, .int (E.2 j3)]) (rest := []) rfl (Nat.le_of_ble_eq_true rfl) h2 ?_
  refine Ev.run (c' := (976, [.ref 0, .ref 1, .ref 27, .ref 37, .int (I j1), .int v1, .int v2], [.ref 27], hp E w2)) hM_153 2 rfl ?_
  refine Ev.callR hd hM_153 rfl (y := 96) (as := [.ref 27]) (rest := []) rfl (Nat.le_of_ble_eq_true rfl) (Ev.run (c' := (4, [.ref 27], [.int (gF w2 8)], hp E w2)) hM_96 2 rfl (Ev.fin hM_96 rfl rfl)) ?_
  refine Ev.run (c' := (981, [.ref 0, .ref 1, .ref 27, .ref 37, .int (I j1), .int v1, .int v2], [.int v1, .int (gF w2 8)], hp E w2)) hM_153 1 rfl ?_
  refine Ev.icT hM_153 rfl (cI_eqT c3) ?_
  refine Ev.run (c' := (988, [.ref 0, .ref 1, .ref 27, .ref 37, .int (I j1), .int v1, .int v2], [.int v1], hp E w2)) hM_153 1 rfl ?_
  refine Ev.ifF hM_153 rfl (cI_neF c4) ?_
  refine Ev.run (c' := (998, [.ref 0, .ref 1, .ref 27, .ref 37, .int (I j1), .int v1, .int v2], [.int (lg_cmp (gO w2) ((v2).toInt64))], hp E w2)) hM_153 6 rfl ?_
  refine Ev.ifT hM_153 rfl (cI_eqT c5) ?_
  refine Ev.run (c' := (23, [.ref 0, .ref 1, .ref 27, .ref 37, .int ((I j1) + (5 : Int32)), .int v1, .int v2], [], hp E w2)) hM_153 3 rfl ?_
  exact e
theorem p153_23_i {E : Nat × (Nat → Int32)} {w : Wd} {d : Nat} {x4 : Int32} {u5 u6 : Value} {o : Ou} {j1 : Nat} {j2 : Nat} {z1 : Int32} {w1 : Wd} {v1 : Int32} {j3 : Nat} {z2 : Int32} {w2 : Wd} {v2 : Int32} {y4 : Int32} (hd : 1 ≤ d) (c1 : ¬ ((I E.1) - (5 : Int32)) < x4) (g1 : x4 = I j1) (b1 : j1 < E.1) (bE : E.1 ≤ 2147483648) (c2 : ((E.2 j1) &&& (31 : Int32)) = (15 : Int32)) (g2 : ((I j1) + (1 : Int32)) = I j2) (b2 : j2 < E.1) (a1 : (E.2 j2) = z1) (h1 : Ev (d - 1) 150 (ent0 150 [.ref 1, .int z1, .ref 37] (hp E w)) (.inl (some (.int v1)), hp E w1)) (g3 : ((I j1) + (1 : Int32)) = I j3) (b3 : j3 < E.1) (a2 : (E.2 j3) = z2) (h2 : Ev (d - 1) 130 (ent0 130 [.ref 27, .int z2] (hp E w1)) (.inl (some (.int v2)), hp E w2)) (c3 : (gF w2 8) = v1) (c4 : ¬ v1 = 0) (q4 : ((I j1) + (5 : Int32)) = y4) (e : Ev d 153 (23, [.ref 0, .ref 1, .ref 27, .ref 37, .int y4, .int v1, .int v2], [], hp E w2) o) : Ev d 153 (23, [.ref 0, .ref 1, .ref 27, .ref 37, .int x4, u5, u6], [], hp E w) o := by
  subst q4
  refine Ev.run (c' := (29, [.ref 0, .ref 1, .ref 27, .ref 37, .int x4, u5, u6], [.int ((I E.1) - (5 : Int32)), .int x4], hp E w)) hM_153 5 rfl ?_
  refine Ev.icF hM_153 rfl (cI_gtF c1) ?_
  refine Ev.run (c' := (35, [.ref 0, .ref 1, .ref 27, .ref 37, .int x4, u5, u6], [.int x4, .ref 0], hp E w)) hM_153 2 rfl ?_
  subst g1
  refine Ev.iald hM_153 rfl (a := 0) rfl (inb_I b1 bE) ?_
  rw [I_clamp (Nat.lt_of_lt_of_le b1 bE)]
  refine Ev.run (c' := (39, [.ref 0, .ref 1, .ref 27, .ref 37, .int (I j1), u5, u6], [.int ((E.2 j1) &&& (31 : Int32))], hp E w)) hM_153 2 rfl ?_
  rw [c2]
  refine Ev.run (c' := (956, [.ref 0, .ref 1, .ref 27, .ref 37, .int (I j1), u5, u6], [.int ((I j1) + (1 : Int32)), .ref 0, .ref 1], hp E w)) hM_153 6 rfl ?_
  rw [g2]
  refine Ev.iald hM_153 rfl (a := 0) rfl (inb_I b2 bE) ?_
  rw [I_clamp (Nat.lt_of_lt_of_le b2 bE)]
  refine Ev.run (c' := (958, [.ref 0, .ref 1, .ref 27, .ref 37, .int (I j1), u5, u6], [.ref 37, .int (E.2 j2), .ref 1], hp E w)) hM_153 1 rfl ?_
  rw [← a1] at h1
  refine Ev.callR hd hM_153 rfl (y := 150) (as := [.ref 1, .int (E.2 j2), .ref 37]) (rest := []) rfl (Nat.le_of_ble_eq_true rfl) h1 ?_
  refine Ev.run (c' := (969, [.ref 0, .ref 1, .ref 27, .ref 37, .int (I j1), .int v1, u6], [.int ((I j1) + (1 : Int32)), .ref 0, .ref 27], hp E w1)) hM_153 6 rfl ?_
  rw [g3]
  refine Ev.iald hM_153 rfl (a := 0) rfl (inb_I b3 bE) ?_
  rw [I_clamp (Nat.lt_of_lt_of_le b3 bE)]
  refine Ev.run (c' := (970, [.ref 0, .ref 1, .ref 27, .ref 37, .int (I j1), .int v1, u6], [.int (E.2 j3), .ref 27], hp E w1)) hM_153 0 rfl ?_
  rw [← a2] at h2
  refine Ev.callR hd hM_153 rfl (y := 130) (as := [.ref 27, .int (E.2 j3)]) (rest := []) rfl (Nat.le_of_ble_eq_true rfl) h2 ?_
  refine Ev.run (c' := (976, [.ref 0, .ref 1, .ref 27, .ref 37, .int (I j1), .int v1, .int v2], [.ref 27], hp E w2)) hM_153 2 rfl ?_
  refine Ev.callR hd hM_153 rfl (y := 96) (as := [.ref 27]) (rest := []) rfl (Nat.le_of_ble_eq_true rfl) (Ev.run (c' := (4, [.ref 27], [.int (gF w2 8)], hp E w2)) hM_96 2 rfl (Ev.fin hM_96 rfl rfl)) ?_
  refine Ev.run (c' := (981, [.ref 0, .ref 1, .ref 27, .ref 37, .int (I j1), .int v1, .int v2], [.int v1, .int (gF w2 8)], hp E w2)) hM_153 1 rfl ?_
  refine Ev.icT hM_153 rfl (cI_eqT c3) ?_
  refine Ev.run (c' := (988, [.ref 0, .ref 1, .ref 27, .ref 37, .int (I j1), .int v1, .int v2], [.int v1], hp E w2)) hM_153 1 rfl ?_
  refine Ev.ifT hM_153 rfl (cI_neT c4) ?_
  refine Ev.run (c' := (23, [.ref 0, .ref 1, .ref 27, .ref 37, .int ((I j1) + (5 : Int32)), .int v1, .int v2], [], hp E w2)) hM_153 3 rfl ?_
  exact e
theorem p153_23_j {E : Nat × (Nat → Int32)} {w : Wd} {d : Nat} {x4 : Int32} {u5 u6 : Value} {o : Ou} {j1 : Nat} {w1 : Wd} {v1 : Int32} {w2 : Wd} {v2 : Int32} {y4 : Int32} (hd : 1 ≤ d) (c1 : ¬ ((I E.1) - (5 : Int32)) < x4) (g1 : x4 = I j1) (b1 : j1 < E.1) (bE : E.1 ≤ 2147483648) (c2 : ((E.2 j1) &&& (31 : Int32)) = (14 : Int32)) (h1 : Ev (d - 1) 83 (ent0 83 [.ref 1] (hp E w)) (.inl (some (.int v1)), hp E w1)) (h2 : Ev (d - 1) 129 (ent0 129 [.ref 27] (hp E w1)) (.inl (some (.int v2)), hp E w2)) (c3 : v1 = v2) (q4 : ((I j1) + (5 : Int32)) = y4) (e : Ev d 153 (23, [.ref 0, .ref 1, .ref 27, .ref 37, .int y4, u5, u6], [], hp E w2) o) : Ev d 153 (23, [.ref 0, .ref 1, .ref 27, .ref 37, .int x4, u5, u6], [], hp E w) o := by
  subst q4
  refine Ev.run (c' := (29, [.ref 0, .ref 1, .ref 27, .ref 37, .int x4, u5, u6], [.int ((I E.1) - (5 : Int32)), .int x4], hp E w)) hM_153 5 rfl ?_
  refine Ev.icF hM_153 rfl (cI_gtF c1) ?_
  refine Ev.run (c' := (35, [.ref 0, .ref 1, .ref 27, .ref 37, .int x4, u5, u6], [.int x4, .ref 0], hp E w)) hM_153 2 rfl ?_
  subst g1
  refine Ev.iald hM_153 rfl (a := 0) rfl (inb_I b1 bE) ?_
  rw [I_clamp (Nat.lt_of_lt_of_le b1 bE)]
  refine Ev.run (c' := (39, [.ref 0, .ref 1, .ref 27, .ref 37, .int (I j1), u5, u6], [.int ((E.2 j1) &&& (31 : Int32))], hp E w)) hM_153 2 rfl ?_
  rw [c2]
  refine Ev.run (c' := (938, [.ref 0, .ref 1, .ref 27, .ref 37, .int (I j1), u5, u6], [.ref 1], hp E w)) hM_153 2 rfl ?_
  refine Ev.callR hd hM_153 rfl (y := 83) (as := [.ref 1]) (rest := []) rfl (Nat.le_of_ble_eq_true rfl) h1 ?_
  refine Ev.run (c' := (942, [.ref 0, .ref 1, .ref 27, .ref 37, .int (I j1), u5, u6], [.ref 27, .int v1], hp E w1)) hM_153 1 rfl ?_
  refine Ev.callR hd hM_153 rfl (y := 129) (as := [.ref 27]) (rest := [.int v1]) rfl (Nat.le_of_ble_eq_true rfl) h2 ?_
  refine Ev.run (c' := (945, [.ref 0, .ref 1, .ref 27, .ref 37, .int (I j1), u5, u6], [.int v2, .int v1], hp E w2)) hM_153 0 rfl ?_
  refine Ev.icT hM_153 rfl (cI_eqT c3) ?_
  refine Ev.run (c' := (23, [.ref 0, .ref 1, .ref 27, .ref 37, .int ((I j1) + (5 : Int32)), u5, u6], [], hp E w2)) hM_153 2 rfl ?_
  exact e
theorem p153_23_k {E : Nat × (Nat → Int32)} {w : Wd} {d : Nat} {x4 : Int32} {u5 u6 : Value} {o : Ou} {j1 : Nat} {w1 : Wd} {v1 : Int32} {y4 : Int32} (hd : 1 ≤ d) (c1 : ¬ ((I E.1) - (5 : Int32)) < x4) (g1 : x4 = I j1) (b1 : j1 < E.1) (bE : E.1 ≤ 2147483648) (c2 : ((E.2 j1) &&& (31 : Int32)) = (13 : Int32)) (h1 : Ev (d - 1) 127 (ent0 127 [.ref 27] (hp E w)) (.inl (some (.int v1)), hp E w1)) (c3 : (gF w 0) = v1) (q4 : ((I j1) + (5 : Int32)) = y4) (e : Ev d 153 (23, [.ref 0, .ref 1, .ref 27, .ref 37, .int y4, u5, u6], [], hp E w1) o) : Ev d 153 (23, [.ref 0, .ref 1, .ref 27, .ref 37, .int x4, u5, u6], [], hp E w) o := by
  subst q4
  refine Ev.run (c' := (29, [.ref 0, .ref 1, .ref 27, .ref 37, .int x4, u5, u6], [.int ((I E.1) - (5 : Int32)), .int x4], hp E w)) hM_153 5 rfl ?_
  refine Ev.icF hM_153 rfl (cI_gtF c1) ?_
  refine Ev.run (c' := (35, [.ref 0, .ref 1, .ref 27, .ref 37, .int x4, u5, u6], [.int x4, .ref 0], hp E w)) hM_153 2 rfl ?_
  subst g1
  refine Ev.iald hM_153 rfl (a := 0) rfl (inb_I b1 bE) ?_
  rw [I_clamp (Nat.lt_of_lt_of_le b1 bE)]
  refine Ev.run (c' := (39, [.ref 0, .ref 1, .ref 27, .ref 37, .int (I j1), u5, u6], [.int ((E.2 j1) &&& (31 : Int32))], hp E w)) hM_153 2 rfl ?_
  rw [c2]
  refine Ev.run (c' := (925, [.ref 0, .ref 1, .ref 27, .ref 37, .int (I j1), u5, u6], [.ref 1], hp E w)) hM_153 2 rfl ?_
  refine Ev.callR hd hM_153 rfl (y := 82) (as := [.ref 1]) (rest := []) rfl (Nat.le_of_ble_eq_true rfl) (Ev.run (c' := (4, [.ref 1], [.int (gF w 0)], hp E w)) hM_82 2 rfl (Ev.fin hM_82 rfl rfl)) ?_
  refine Ev.run (c' := (929, [.ref 0, .ref 1, .ref 27, .ref 37, .int (I j1), u5, u6], [.ref 27, .int (gF w 0)], hp E w)) hM_153 1 rfl ?_
  refine Ev.callR hd hM_153 rfl (y := 127) (as := [.ref 27]) (rest := [.int (gF w 0)]) rfl (Nat.le_of_ble_eq_true rfl) h1 ?_
  refine Ev.run (c' := (932, [.ref 0, .ref 1, .ref 27, .ref 37, .int (I j1), u5, u6], [.int v1, .int (gF w 0)], hp E w1)) hM_153 0 rfl ?_
  refine Ev.icT hM_153 rfl (cI_eqT c3) ?_
  refine Ev.run (c' := (23, [.ref 0, .ref 1, .ref 27, .ref 37, .int ((I j1) + (5 : Int32)), u5, u6], [], hp E w1)) hM_153 2 rfl ?_
  exact e
theorem p153_23_l {E : Nat × (Nat → Int32)} {w : Wd} {d : Nat} {x4 : Int32} {u5 u6 : Value} {o : Ou} {j1 : Nat} {w1 : Wd} {v1 : Int32} {w2 : Wd} {v2 : Int32} {y4 : Int32} (hd : 1 ≤ d) (c1 : ¬ ((I E.1) - (5 : Int32)) < x4) (g1 : x4 = I j1) (b1 : j1 < E.1) (bE : E.1 ≤ 2147483648) (c2 : ((E.2 j1) &&& (31 : Int32)) = (12 : Int32)) (h1 : Ev (d - 1) 81 (ent0 81 [.ref 1] (hp E w)) (.inl (some (.int v1)), hp E w1)) (h2 : Ev (d - 1) 126 (ent0 126 [.ref 27] (hp E w1)) (.inl (some (.int v2)), hp E w2)) (c3 : v1 = v2) (q4 : ((I j1) + (5 : Int32)) = y4) (e : Ev d 153 (23, [.ref 0, .ref 1, .ref 27, .ref 37, .int y4, u5, u6], [], hp E w2) o) : Ev d 153 (23, [.ref 0, .ref 1, .ref 27, .ref 37, .int x4, u5, u6], [], hp E w) o := by
  subst q4
  refine Ev.run (c' := (29, [.ref 0, .ref 1, .ref 27, .ref 37, .int x4, u5, u6], [.int ((I E.1) - (5 : Int32)), .int x4], hp E w)) hM_153 5 rfl ?_
  refine Ev.icF hM_153 rfl (cI_gtF c1) ?_
  refine Ev.run (c' := (35, [.ref 0, .ref 1, .ref 27, .ref 37, .int x4, u5, u6], [.int x4, .ref 0], hp E w)) hM_153 2 rfl ?_
  subst g1
  refine Ev.iald hM_153 rfl (a := 0) rfl (inb_I b1 bE) ?_
  rw [I_clamp (Nat.lt_of_lt_of_le b1 bE)]
  refine Ev.run (c' := (39, [.ref 0, .ref 1, .ref 27, .ref 37, .int (I j1), u5, u6], [.int ((E.2 j1) &&& (31 : Int32))], hp E w)) hM_153 2 rfl ?_
  rw [c2]
  refine Ev.run (c' := (912, [.ref 0, .ref 1, .ref 27, .ref 37, .int (I j1), u5, u6], [.ref 1], hp E w)) hM_153 2 rfl ?_
  refine Ev.callR hd hM_153 rfl (y := 81) (as := [.ref 1]) (rest := []) rfl (Nat.le_of_ble_eq_true rfl) h1 ?_
  refine Ev.run (c' := (916, [.ref 0, .ref 1, .ref 27, .ref 37, .int (I j1), u5, u6], [.ref 27, .int v1], hp E w1)) hM_153 1 rfl ?_
  refine Ev.callR hd hM_153 rfl (y := 126) (as := [.ref 27]) (rest := [.int v1]) rfl (Nat.le_of_ble_eq_true rfl) h2 ?_
  refine Ev.run (c' := (919, [.ref 0, .ref 1, .ref 27, .ref 37, .int (I j1), u5, u6], [.int v2, .int v1], hp E w2)) hM_153 0 rfl ?_
  refine Ev.icT hM_153 rfl (cI_eqT c3) ?_
  refine Ev.run (c' := (23, [.ref 0, .ref 1, .ref 27, .ref 37, .int ((I j1) + (5 : Int32)), u5, u6], [], hp E w2)) hM_153 2 rfl ?_
  exact e
theorem p153_23_m {E : Nat × (Nat → Int32)} {w : Wd} {d : Nat} {x4 : Int32} {u5 u6 : Value} {o : Ou} {j1 : Nat} {j2 : Nat} {z1 : Int32} {w1 : Wd} {v1 : Int32} {j3 : Nat} {z2 : Int32} {w2 : Wd} {v2 : Int32} {y4 : Int32} (hd : 1 ≤ d) (c1 : ¬ ((I E.1) - (5 : Int32)) < x4) (g1 : x4 = I j1) (b1 : j1 < E.1) (bE : E.1 ≤ 2147483648) (c2 : ((E.2 j1) &&& (31 : Int32)) = (11 : Int32)) (g2 : ((I j1) + (1 : Int32)) = I j2) (b2 : j2 < E.1) (a1 : (E.2 j2) = z1) (h1 : Ev (d - 1) 149 (ent0 149 [.ref 1, .int z1, .ref 37] (hp E w)) (.inl (some (.int v1)), hp E w1)) (g3 : ((I j1) + (1 : Int32)) = I j3) (b3 : j3 < E.1) (a2 : (E.2 j3) = z2) (h2 : Ev (d - 1) 124 (ent0 124 [.ref 27, .int z2] (hp E w1)) (.inl (some (.int v2)), hp E w2)) (c3 : (gF w2 8) = v1) (c4 : v1 = 0) (c5 : ¬ v2 = 0) (c6 : (lg_cmp (gO w2) (1 : Int64)) = 0) (q4 : ((I j1) + (5 : Int32)) = y4) (e : Ev d 153 (23, [.ref 0, .ref 1, .ref 27, .ref 37, .int y4, .int v1, .int v2], [], hp E w2) o) : Ev d 153 (23, [.ref 0, .ref 1, .ref 27, .ref 37, .int x4, u5, u6], [], hp E w) o := by
  subst q4
  refine Ev.run (c' := (29, [.ref 0, .ref 1, .ref 27, .ref 37, .int x4, u5, u6], [.int ((I E.1) - (5 : Int32)), .int x4], hp E w)) hM_153 5 rfl ?_
  refine Ev.icF hM_153 rfl (cI_gtF c1) ?_
  refine Ev.run (c' := (35, [.ref 0, .ref 1, .ref 27, .ref 37, .int x4, u5, u6], [.int x4, .ref 0], hp E w)) hM_153 2 rfl ?_
  subst g1
  refine Ev.iald hM_153 rfl (a := 0) rfl (inb_I b1 bE) ?_
  rw [I_clamp (Nat.lt_of_lt_of_le b1 bE)]
  refine Ev.run (c' := (39, [.ref 0, .ref 1, .ref 27, .ref 37, .int (I j1), u5, u6], [.int ((E.2 j1) &&& (31 : Int32))], hp E w)) hM_153 2 rfl ?_
  rw [c2]
  refine Ev.run (c' := (854, [.ref 0, .ref 1, .ref 27, .ref 37, .int (I j1), u5, u6], [.int ((I j1) + (1 : Int32)), .ref 0, .ref 1], hp E w)) hM_153 6 rfl ?_
  rw [g2]
  refine Ev.iald hM_153 rfl (a := 0) rfl (inb_I b2 bE) ?_
  rw [I_clamp (Nat.lt_of_lt_of_le b2 bE)]
  refine Ev.run (c' := (856, [.ref 0, .ref 1, .ref 27, .ref 37, .int (I j1), u5, u6], [.ref 37, .int (E.2 j2), .ref 1], hp E w)) hM_153 1 rfl ?_
  rw [← a1] at h1
  refine Ev.callR hd hM_153 rfl (y := 149) (as := [.ref 1, .int (E.2 j2), .ref 37]) (rest := []) rfl (Nat.le_of_ble_eq_true rfl) h1 ?_
  refine Ev.run (c' := (867, [.ref 0, .ref 1, .ref 27, .ref 37, .int (I j1), .int v1, u6], [.int ((I j1) + (1 : Int32)), .ref 0, .ref 27], hp E w1)) hM_153 6 rfl ?_
  rw [g3]
  refine Ev.iald hM_153 rfl (a := 0) rfl (inb_I b3 bE) ?_
  rw [I_clamp (Nat.lt_of_lt_of_le b3 bE)]
  refine Ev.run (c' := (868, [.ref 0, .ref 1, .ref 27, .ref 37, .int (I j1), .int v1, u6], [.int (E.2 j3), .ref 27], hp E w1)) hM_153 0 rfl ?_
  rw [← a2] at h2
  refine Ev.callR hd hM_153 rfl (y := 124) (as := [.ref 27, .int (E.2 j3)]) (rest := []) rfl (Nat.le_of_ble_eq_true rfl) h2 ?_
  refine Ev.run (c' := (874, [.ref 0, .ref 1, .ref 27, .ref 37, .int (I j1), .int v1, .int v2], [.ref 27], hp E w2)) hM_153 2 rfl ?_
  refine Ev.callR hd hM_153 rfl (y := 96) (as := [.ref 27]) (rest := []) rfl (Nat.le_of_ble_eq_true rfl) (Ev.run (c' := (4, [.ref 27], [.int (gF w2 8)], hp E w2)) hM_96 2 rfl (Ev.fin hM_96 rfl rfl)) ?_
  refine Ev.run (c' := (879, [.ref 0, .ref 1, .ref 27, .ref 37, .int (I j1), .int v1, .int v2], [.int v1, .int (gF w2 8)], hp E w2)) hM_153 1 rfl ?_
  refine Ev.icT hM_153 rfl (cI_eqT c3) ?_
  refine Ev.run (c' := (886, [.ref 0, .ref 1, .ref 27, .ref 37, .int (I j1), .int v1, .int v2], [.int v1], hp E w2)) hM_153 1 rfl ?_
  refine Ev.ifF hM_153 rfl (cI_neF c4) ?_
  refine Ev.run (c' := (894, [.ref 0, .ref 1, .ref 27, .ref 37, .int (I j1), .int v1, .int v2], [.int v2, .long (gO w2)], hp E w2)) hM_153 4 rfl ?_
  refine Ev.ifF hM_153 rfl (cI_eqF c5) ?_
  refine Ev.run (c' := (903, [.ref 0, .ref 1, .ref 27, .ref 37, .int (I j1), .int v1, .int v2], [.int (lg_cmp (gO w2) (1 : Int64))], hp E w2)) hM_153 3 rfl ?_
  refine Ev.ifT hM_153 rfl (cI_eqT c6) ?_
  refine Ev.run (c' := (23, [.ref 0, .ref 1, .ref 27, .ref 37, .int ((I j1) + (5 : Int32)), .int v1, .int v2], [], hp E w2)) hM_153 3 rfl ?_
  exact e
theorem p153_23_n {E : Nat × (Nat → Int32)} {w : Wd} {d : Nat} {x4 : Int32} {u5 u6 : Value} {o : Ou} {j1 : Nat} {j2 : Nat} {z1 : Int32} {w1 : Wd} {v1 : Int32} {j3 : Nat} {z2 : Int32} {w2 : Wd} {v2 : Int32} {y4 : Int32} (hd : 1 ≤ d) (c1 : ¬ ((I E.1) - (5 : Int32)) < x4) (g1 : x4 = I j1) (b1 : j1 < E.1) (bE : E.1 ≤ 2147483648) (c2 : ((E.2 j1) &&& (31 : Int32)) = (11 : Int32)) (g2 : ((I j1) + (1 : Int32)) = I j2) (b2 : j2 < E.1) (a1 : (E.2 j2) = z1) (h1 : Ev (d - 1) 149 (ent0 149 [.ref 1, .int z1, .ref 37] (hp E w)) (.inl (some (.int v1)), hp E w1)) (g3 : ((I j1) + (1 : Int32)) = I j3) (b3 : j3 < E.1) (a2 : (E.2 j3) = z2) (h2 : Ev (d - 1) 124 (ent0 124 [.ref 27, .int z2] (hp E w1)) (.inl (some (.int v2)), hp E w2)) (c3 : (gF w2 8) = v1) (c4 : v1 = 0) (c5 : v2 = 0) (c6 : (lg_cmp (gO w2) (0 : Int64)) = 0) (q4 : ((I j1) + (5 : Int32)) = y4) (e : Ev d 153 (23, [.ref 0, .ref 1, .ref 27, .ref 37, .int y4, .int v1, .int v2], [], hp E w2) o) : Ev d 153 (23, [.ref 0, .ref 1, .ref 27, .ref 37, .int x4, u5, u6], [], hp E w) o := by
  subst q4
  refine Ev.run (c' := (29, [.ref 0, .ref 1, .ref 27, .ref 37, .int x4, u5, u6], [.int ((I E.1) - (5 : Int32)), .int x4], hp E w)) hM_153 5 rfl ?_
  refine Ev.icF hM_153 rfl (cI_gtF c1) ?_
  refine Ev.run (c' := (35, [.ref 0, .ref 1, .ref 27, .ref 37, .int x4, u5, u6], [.int x4, .ref 0], hp E w)) hM_153 2 rfl ?_
  subst g1
  refine Ev.iald hM_153 rfl (a := 0) rfl (inb_I b1 bE) ?_
  rw [I_clamp (Nat.lt_of_lt_of_le b1 bE)]
  refine Ev.run (c' := (39, [.ref 0, .ref 1, .ref 27, .ref 37, .int (I j1), u5, u6], [.int ((E.2 j1) &&& (31 : Int32))], hp E w)) hM_153 2 rfl ?_
  rw [c2]
  refine Ev.run (c' := (854, [.ref 0, .ref 1, .ref 27, .ref 37, .int (I j1), u5, u6], [.int ((I j1) + (1 : Int32)), .ref 0, .ref 1], hp E w)) hM_153 6 rfl ?_
  rw [g2]
  refine Ev.iald hM_153 rfl (a := 0) rfl (inb_I b2 bE) ?_
  rw [I_clamp (Nat.lt_of_lt_of_le b2 bE)]
  refine Ev.run (c' := (856, [.ref 0, .ref 1, .ref 27, .ref 37, .int (I j1), u5, u6], [.ref 37, .int (E.2 j2), .ref 1], hp E w)) hM_153 1 rfl ?_
  rw [← a1] at h1
  refine Ev.callR hd hM_153 rfl (y := 149) (as := [.ref 1, .int (E.2 j2), .ref 37]) (rest := []) rfl (Nat.le_of_ble_eq_true rfl) h1 ?_
  refine Ev.run (c' := (867, [.ref 0, .ref 1, .ref 27, .ref 37, .int (I j1), .int v1, u6], [.int ((I j1) + (1 : Int32)), .ref 0, .ref 27], hp E w1)) hM_153 6 rfl ?_
  rw [g3]
  refine Ev.iald hM_153 rfl (a := 0) rfl (inb_I b3 bE) ?_
  rw [I_clamp (Nat.lt_of_lt_of_le b3 bE)]
  refine Ev.run (c' := (868, [.ref 0, .ref 1, .ref 27, .ref 37, .int (I j1), .int v1, u6], [.int (E.2 j3), .ref 27], hp E w1)) hM_153 0 rfl ?_
  rw [← a2] at h2
  refine Ev.callR hd hM_153 rfl (y := 124) (as := [.ref 27, .int (E.2 j3)]) (rest := []) rfl (Nat.le_of_ble_eq_true rfl) h2 ?_
  refine Ev.run (c' := (874, [.ref 0, .ref 1, .ref 27, .ref 37, .int (I j1), .int v1, .int v2], [.ref 27], hp E w2)) hM_153 2 rfl ?_
  refine Ev.callR hd hM_153 rfl (y := 96) (as := [.ref 27]) (rest := []) rfl (Nat.le_of_ble_eq_true rfl) (Ev.run (c' := (4, [.ref 27], [.int (gF w2 8)], hp E w2)) hM_96 2 rfl (Ev.fin hM_96 rfl rfl)) ?_
  refine Ev.run (c' := (879, [.ref 0, .ref 1, .ref 27, .ref 37, .int (I j1), .int v1, .int v2], [.int v1, .int (gF w2 8)], hp E w2)) hM_153 1 rfl ?_
  refine Ev.icT hM_153 rfl (cI_eqT c3) ?_
  refine Ev.run (c' := (886, [.ref 0, .ref 1, .ref 27, .ref 37, .int (I j1), .int v1, .int v2], [.int v1], hp E w2)) hM_153 1 rfl ?_
  refine Ev.ifF hM_153 rfl (cI_neF c4) ?_
  refine Ev.run (c' := (894, [.ref 0, .ref 1, .ref 27, .ref 37, .int (I j1), .int v1, .int v2], [.int v2, .long (gO w2)], hp E w2)) hM_153 4 rfl ?_
  refine Ev.ifT hM_153 rfl (cI_eqT c5) ?_
  refine Ev.run (c' := (903, [.ref 0, .ref 1, .ref 27, .ref 37, .int (I j1), .int v1, .int v2], [.int (lg_cmp (gO w2) (0 : Int64))], hp E w2)) hM_153 2 rfl ?_
  refine Ev.ifT hM_153 rfl (cI_eqT c6) ?_
  refine Ev.run (c' := (23, [.ref 0, .ref 1, .ref 27, .ref 37, .int ((I j1) + (5 : Int32)), .int v1, .int v2], [], hp E w2)) hM_153 3 rfl ?_
  exact e
theorem p153_23_o {E : Nat × (Nat → Int32)} {w : Wd} {d : Nat} {x4 : Int32} {u5 u6 : Value} {o : Ou} {j1 : Nat} {j2 : Nat} {z1 : Int32} {w1 : Wd} {v1 : Int32} {j3 : Nat} {z2 : Int32} {w2 : Wd} {v2 : Int32} {y4 : Int32} (hd : 1 ≤ d) (c1 : ¬ ((I E.1) - (5 : Int32)) < x4) (g1 : x4 = I j1) (b1 : j1 < E.1) (bE : E.1 ≤ 2147483648) (c2 : ((E.2 j1) &&& (31 : Int32)) = (11 : Int32)) (g2 : ((I j1) + (1 : Int32)) = I j2) (b2 : j2 < E.1) (a1 : (E.2 j2) = z1) (h1 : Ev (d - 1) 149 (ent0 149 [.ref 1, .int z1, .ref 37] (hp E w)) (.inl (some (.int v1)), hp E w1)) (g3 : ((I j1) + (1 : Int32)) = I j3) (b3 : j3 < E.1) (a2 : (E.2 j3) = z2) (h2 : Ev (d - 1) 124 (ent0 124 [.ref 27, .int z2] (hp E w1)) (.inl (some (.int v2)), hp E w2)) (c3 : (gF w2 8) = v1) (c4 : ¬ v1 = 0) (q4 : ((I j1) + (5 : Int32)) = y4) (e : Ev d 153 (23, [.ref 0, .ref 1, .ref 27, .ref 37, .int y4, .int v1, .int v2], [], hp E w2) o) : Ev d 153 (23, [.ref 0, .ref 1, .ref 27, .ref 37, .int x4, u5, u6], [], hp E w) o := by
  subst q4
  refine Ev.run (c' := (29, [.ref 0, .ref 1, .ref 27, .ref 37, .int x4, u5, u6], [.int ((I E.1) - (5 : Int32)), .int x4], hp E w)) hM_153 5 rfl ?_
  refine Ev.icF hM_153 rfl (cI_gtF c1) ?_
  refine Ev.run (c' := (35, [.ref 0, .ref 1, .ref 27, .ref 37, .int x4, u5, u6], [.int x4, .ref 0], hp E w)) hM_153 2 rfl ?_
  subst g1
  refine Ev.iald hM_153 rfl (a := 0) rfl (inb_I b1 bE) ?_
  rw [I_clamp (Nat.lt_of_lt_of_le b1 bE)]
  refine Ev.run (c' := (39, [.ref 0, .ref 1, .ref 27, .ref 37, .int (I j1), u5, u6], [.int ((E.2 j1) &&& (31 : Int32))], hp E w)) hM_153 2 rfl ?_
  rw [c2]
  refine Ev.run (c' := (854, [.ref 0, .ref 1, .ref 27, .ref 37, .int (I j1), u5, u6], [.int ((I j1) + (1 : Int32)), .ref 0, .ref 1], hp E w)) hM_153 6 rfl ?_
  rw [g2]
  refine Ev.iald hM_153 rfl (a := 0) rfl (inb_I b2 bE) ?_
  rw [I_clamp (Nat.lt_of_lt_of_le b2 bE)]
  refine Ev.run (c' := (856, [.ref 0, .ref 1, .ref 27, .ref 37, .int (I j1), u5, u6], [.ref 37, .int (E.2 j2), .ref 1], hp E w)) hM_153 1 rfl ?_
  rw [← a1] at h1
  refine Ev.callR hd hM_153 rfl (y := 149) (as := [.ref 1, .int (E.2 j2), .ref 37]) (rest := []) rfl (Nat.le_of_ble_eq_true rfl) h1 ?_
  refine Ev.run (c' := (867, [.ref 0, .ref 1, .ref 27, .ref 37, .int (I j1), .int v1, u6], [.int ((I j1) + (1 : Int32)), .ref 0, .ref 27], hp E w1)) hM_153 6 rfl ?_
  rw [g3]
  refine Ev.iald hM_153 rfl (a := 0) rfl (inb_I b3 bE) ?_
  rw [I_clamp (Nat.lt_of_lt_of_le b3 bE)]
  refine Ev.run (c' := (868, [.ref 0, .ref 1, .ref 27, .ref 37, .int (I j1), .int v1, u6], [.int (E.2 j3), .ref 27], hp E w1)) hM_153 0 rfl ?_
  rw [← a2] at h2
  refine Ev.callR hd hM_153 rfl (y := 124) (as := [.ref 27, .int (E.2 j3)]) (rest := []) rfl (Nat.le_of_ble_eq_true rfl) h2 ?_
  refine Ev.run (c' := (874, [.ref 0, .ref 1, .ref 27, .ref 37, .int (I j1), .int v1, .int v2], [.ref 27], hp E w2)) hM_153 2 rfl ?_
  refine Ev.callR hd hM_153 rfl (y := 96) (as := [.ref 27]) (rest := []) rfl (Nat.le_of_ble_eq_true rfl) (Ev.run (c' := (4, [.ref 27], [.int (gF w2 8)], hp E w2)) hM_96 2 rfl (Ev.fin hM_96 rfl rfl)) ?_
  refine Ev.run (c' := (879, [.ref 0, .ref 1, .ref 27, .ref 37, .int (I j1), .int v1, .int v2], [.int v1, .int (gF w2 8)], hp E w2)) hM_153 1 rfl ?_
  refine Ev.icT hM_153 rfl (cI_eqT c3) ?_
  refine Ev.run (c' := (886, [.ref 0, .ref 1, .ref 27, .ref 37, .int (I j1), .int v1, .int v2], [.int v1], hp E w2)) hM_153 1 rfl ?_
  refine Ev.ifT hM_153 rfl (cI_neT c4) ?_
  refine Ev.run (c' := (23, [.ref 0, .ref 1, .ref 27, .ref 37, .int ((I j1) + (5 : Int32)), .int v1, .int v2], [], hp E w2)) hM_153 3 rfl ?_
  exact e
theorem p153_23_p {E : Nat × (Nat → Int32)} {w : Wd} {d : Nat} {x4 : Int32} {u5 u6 : Value} {o : Ou} {j1 : Nat} {j2 : Nat} {j3 : Nat} {j4 : Nat} {z1 : Int32} {z2 : Int32} {z3 : Int32} {w1 : Wd} {v1 : Int32} {j5 : Nat} {j6 : Nat} {j7 : Nat} {z4 : Int32} {z5 : Int32} {z6 : Int32} {w2 : Wd} {v2 : Int32} {y4 : Int32} (hd : 1 ≤ d) (c1 : ¬ ((I E.1) - (5 : Int32)) < x4) (g1 : x4 = I j1) (b1 : j1 < E.1) (bE : E.1 ≤ 2147483648) (c2 : ((E.2 j1) &&& (31 : Int32)) = (10 : Int32)) (g2 : ((I j1) + (1 : Int32)) = I j2) (b2 : j2 < E.1) (g3 : ((I j1) + (2 : Int32)) = I j3) (b3 : j3 < E.1) (g4 : ((I j1) + (3 : Int32)) = I j4) (b4 : j4 < E.1) (a1 : (E.2 j2) = z1) (a2 : (E.2 j3) = z2) (a3 : (E.2 j4) = z3) (h1 : Ev (d - 1) 148 (ent0 148 [.ref 1, .int z1, .int z2, .int z3, .ref 37] (hp E w)) (.inl (some (.int v1)), hp E w1)) (g5 : ((I j1) + (1 : Int32)) = I j5) (b5 : j5 < E.1) (g6 : ((I j1) + (2 : Int32)) = I j6) (b6 : j6 < E.1) (g7 : ((I j1) + (3 : Int32)) = I j7) (b7 : j7 < E.1) (a4 : (E.2 j5) = z4) (a5 : (E.2 j6) = z5) (a6 : (E.2 j7) = z6) (h2 : Ev (d - 1) 123 (ent0 123 [.ref 27, .int z4, .int z5, .int z6] (hp E w1)) (.inl (some (.int v2)), hp E w2)) (c3 : (gF w2 8) = v1) (c4 : v1 = 0) (c5 : (lg_cmp (gO w2) ((v2).toInt64)) = 0) (q4 : ((I j1) + (5 : Int32)) = y4) (e : Ev d 153 (23, [.ref 0, .ref 1, .ref 27, .ref 37, .int y4, .int v1, .int v2], [], hp E w2) o) : Ev d 153 (23, [.ref 0, .ref 1, .ref 27, .ref 37, .int x4, u5, u6], [], hp E w) o := by
  subst q4
  refine Ev.run (c' := (29, [.ref 0, .ref 1, .ref 27, .ref 37, .int x4, u5, u6], [.int ((I E.1) - (5 : Int32)), .int x4], hp E w)) hM_153 5 rfl ?_
  refine Ev.icF hM_153 rfl (cI_gtF c1) ?_
  refine Ev.run (c' := (35, [.ref 0, .ref 1, .ref 27, .ref 37, .int x4, u5, u6], [.int x4, .ref 0], hp E w)) hM_153 2 rfl ?_
  subst g1
  refine Ev.iald hM_153 rfl (a := 0) rfl (inb_I b1 bE) ?_
  rw [I_clamp (Nat.lt_of_lt_of_le b1 bE)]
  refine Ev.run (c' := (39, [.ref 0, .ref 1, .ref 27, .ref 37, .int (I j1), u5, u6], [.int ((E.2 j1) &&& (31 : Int32))], hp E w)) hM_153 2 rfl ?_
  rw [c2]
  refine Ev.run (c' := (774, [.ref 0, .ref 1, .ref 27, .ref 37, .int (I j1), u5, u6], [.int ((I j1) + (1 : Int32)), .ref 0, .ref 1], hp E w)) hM_153 6 rfl ?_
  rw [g2]
  refine Ev.iald hM_153 rfl (a := 0) rfl (inb_I b2 bE) ?_
  rw [I_clamp (Nat.lt_of_lt_of_le b2 bE)]
  refine Ev.run (c' := (780, [.ref 0, .ref 1, .ref 27, .ref 37, .int (I j1), u5, u6], [.int ((I j1) + (2 : Int32)), .ref 0, .int (E.2 j2), .ref 1], hp E w)) hM_153 4 rfl ?_
  rw [g3]
  refine Ev.iald hM_153 rfl (a := 0) rfl (inb_I b3 bE) ?_
  rw [I_clamp (Nat.lt_of_lt_of_le b3 bE)]
  refine Ev.run (c' := (786, [.ref 0, .ref 1, .ref 27, .ref 37, .int (I j1), u5, u6], [.int ((I j1) + (3 : Int32)), .ref 0, .int (E.2 j3), .int (E.2 j2), .ref 1], hp E w)) hM_153 4 rfl ?_
  rw [g4]
  refine Ev.iald hM_153 rfl (a := 0) rfl (inb_I b4 bE) ?_
  rw [I_clamp (Nat.lt_of_lt_of_le b4 bE)]
  refine Ev.run (c' := (788, [.ref 0, .ref 1, .ref 27, .ref 37, .int (I j1), u5, u6], [.ref 37, .int (E.2 j4), .int (E.2 j3), .int (E.2 j2), .ref 1], hp E w)) hM_153 1 rfl ?_
  rw [← a1] at h1
  rw [← a2] at h1
  rw [← a3] at h1
  refine Ev.callR hd hM_153 rfl (y := 148) (as := [.ref 1, .int (E.2 j2), .int (E.2 j3), .int (E.2 j4), .ref 37]) (rest := []) rfl (Nat.le_of_ble_eq_true rfl) h1 ?_
  refine Ev.run (c' := (799, [.ref 0, .ref 1, .ref 27, .ref 37, .int (I j1), .int v1, u6], [.int ((I j1) + (1 : Int32)), .ref 0, .ref 27], hp E w1)) hM_153 6 rfl ?_
  rw [g5]
  refine Ev.iald hM_153 rfl (a := 0) rfl (inb_I b5 bE) ?_
  rw [I_clamp (Nat.lt_of_lt_of_le b5 bE)]
  refine Ev.run (c' := (805, [.ref 0, .ref 1, .ref 27, .ref 37, .int (I j1), .int v1, u6], [.int ((I j1) + (2 : Int32)), .ref 0, .int (E.2 j5), .ref 27], hp E w1)) hM_153 4 rfl ?_
  rw [g6]
  refine Ev.iald hM_153 rfl (a := 0) rfl (inb_I b6 bE) ?_
  rw [I_clamp (Nat.lt_of_lt_of_le b6 bE)]
  refine Ev.run (c' := (811, [.ref 0, .ref 1, .ref 27, .ref 37, .int (I j1), .int v1, u6], [.int ((I j1) + (3 : Int32)), .ref 0, .int (E.2 j6), .int (E.2 j5), .ref 27], hp E w1)) hM_153 4 rfl ?_
  rw [g7]
  refine Ev.iald hM_153 rfl (a := 0) rfl (inb_I b7 bE) ?_
  rw [I_clamp (Nat.lt_of_lt_of_le b7 bE)]
  refine Ev.run (c' := (812, [.ref 0, .ref 1, .ref 27, .ref 37, .int (I j1), .int v1, u6], [.int (E.2 j7), .int (E.2 j6), .int (E.2 j5), .ref 27], hp E w1)) hM_153 0 rfl ?_
  rw [← a4] at h2
  rw [← a5] at h2
  rw [← a6] at h2
  refine Ev.callR hd hM_153 rfl (y := 123) (as := [.ref 27, .int (E.2 j5), .int (E.2 j6), .int (E.2 j7)]) (rest := []) rfl (Nat.le_of_ble_eq_true rfl) h2 ?_
  refine Ev.run (c' := (818, [.ref 0, .ref 1, .ref 27, .ref 37, .int (I j1), .int v1, .int v2], [.ref 27], hp E w2)) hM_153 2 rfl ?_
  refine Ev.callR hd hM_153 rfl (y := 96) (as := [.ref 27]) (rest := []) rfl (Nat.le_of_ble_eq_true rfl) (Ev.run (c' := (4, [.ref 27], [.int (gF w2 8)], hp E w2)) hM_96 2 rfl (Ev.fin hM_96 rfl rfl)) ?_
  refine Ev.run (c' := (823, [.ref 0, .ref 1, .ref 27, .ref 37, .int (I j1), .int v1, .int v2], [.int v1, .int (gF w2 8)], hp E w2)) hM_153 1 rfl ?_
  refine Ev.icT hM_153 rfl (cI_eqT c3) ?_
  refine Ev.run (c' := (830, [.ref 0, .ref 1, .ref 27, .ref 37, .int (I j1), .int v1, .int v2], [.int v1], hp E w2)) hM_153 1 rfl ?_
  refine Ev.ifF hM_153 rfl (cI_neF c4) ?_
  refine Ev.run (c' := (840, [.ref 0, .ref 1, .ref 27, .ref 37, .int (I j1), .int v1, .int v2], [.int (lg_cmp (gO w2) ((v2).toInt64))], hp E w2)) hM_153 6 rfl ?_
  refine Ev.ifT hM_153 rfl (cI_eqT c5) ?_
  refine Ev.run (c' := (23, [.ref 0, .ref 1, .ref 27, .ref 37, .int ((I j1) + (5 : Int32)), .int v1, .int v2], [], hp E w2)) hM_153 3 rfl ?_
  exact e
theorem p153_23_q {E : Nat × (Nat → Int32)} {w : Wd} {d : Nat} {x4 : Int32} {u5 u6 : Value} {o : Ou} {j1 : Nat} {j2 : Nat} {j3 : Nat} {j4 : Nat} {z1 : Int32} {z2 : Int32} {z3 : Int32} {w1 : Wd} {v1 : Int32} {j5 : Nat} {j6 : Nat} {j7 : Nat} {z4 : Int32} {z5 : Int32} {z6 : Int32} {w2 : Wd} {v2 : Int32} {y4 : Int32} (hd : 1 ≤ d) (c1 : ¬ ((I E.1) - (5 : Int32)) < x4) (g1 : x4 = I j1) (b1 : j1 < E.1) (bE : E.1 ≤ 2147483648) (c2 : ((E.2 j1) &&& (31 : Int32)) = (10 : Int32)) (g2 : ((I j1) + (1 : Int32)) = I j2) (b2 : j2 < E.1) (g3 : ((I j1) + (2 : Int32)) = I j3) (b3 : j3 < E.1) (g4 : ((I j1) + (3 : Int32)) = I j4) (b4 : j4 < E.1) (a1 : (E.2 j2) = z1) (a2 : (E.2 j3) = z2) (a3 : (E.2 j4) = z3) (h1 : Ev (d - 1) 148 (ent0 148 [.ref 1, .int z1, .int z2, .int z3, .ref 37] (hp E w)) (.inl (some (.int v1)), hp E w1)) (g5 : ((I j1) + (1 : Int32)) = I j5) (b5 : j5 < E.1) (g6 : ((I j1) + (2 : Int32)) = I j6) (b6 : j6 < E.1) (g7 : ((I j1) + (3 : Int32)) = I j7) (b7 : j7 < E.1) (a4 : (E.2 j5) = z4) (a5 : (E.2 j6) = z5) (a6 : (E.2 j7) = z6) (h2 : Ev (d - 1) 123 (ent0 123 [.ref 27, .int z4, .int z5, .int z6] (hp E w1)) (.inl (some (.int v2)), hp E w2)) (c3 : (gF w2 8) = v1) (c4 : ¬ v1 = 0) (q4 : ((I j1) + (5 : Int32)) = y4) (e : Ev d 153 (23, [.ref 0, .ref 1, .ref 27, .ref 37, .int y4, .int v1, .int v2], [], hp E w2) o) : Ev d 153 (23, [.ref 0, .ref 1, .ref 27, .ref 37, .int x4, u5, u6], [], hp E w) o := by
  subst q4
  refine Ev.run (c' := (29, [.ref 0, .ref 1, .ref 27, .ref 37, .int x4, u5, u6], [.int ((I E.1) - (5 : Int32)), .int x4], hp E w)) hM_153 5 rfl ?_
  refine Ev.icF hM_153 rfl (cI_gtF c1) ?_
  refine Ev.run (c' := (35, [.ref 0, .ref 1, .ref 27, .ref 37, .int x4, u5, u6], [.int x4, .ref 0], hp E w)) hM_153 2 rfl ?_
  subst g1
  refine Ev.iald hM_153 rfl (a := 0) rfl (inb_I b1 bE) ?_
  rw [I_clamp (Nat.lt_of_lt_of_le b1 bE)]
  refine Ev.run (c' := (39, [.ref 0, .ref 1, .ref 27, .ref 37, .int (I j1), u5, u6], [.int ((E.2 j1) &&& (31 : Int32))], hp E w)) hM_153 2 rfl ?_
  rw [c2]
  refine Ev.run (c' := (774, [.ref 0, .ref 1, .ref 27, .ref 37, .int (I j1), u5, u6], [.int ((I j1) + (1 : Int32)), .ref 0, .ref 1], hp E w)) hM_153 6 rfl ?_
  rw [g2]
  refine Ev.iald hM_153 rfl (a := 0) rfl (inb_I b2 bE) ?_
  rw [I_clamp (Nat.lt_of_lt_of_le b2 bE)]
  refine Ev.run (c' := (780, [.ref 0, .ref 1, .ref 27, .ref 37, .int (I j1), u5, u6], [.int ((I j1) + (2 : Int32)), .ref 0, .int (E.2 j2), .ref 1], hp E w)) hM_153 4 rfl ?_
  rw [g3]
  refine Ev.iald hM_153 rfl (a := 0) rfl (inb_I b3 bE) ?_
  rw [I_clamp (Nat.lt_of_lt_of_le b3 bE)]
  refine Ev.run (c' := (786, [.ref 0, .ref 1, .ref 27, .ref 37, .int (I j1), u5, u6], [.int ((I j1) + (3 : Int32)), .ref 0, .int (E.2 j3), .int (E.2 j2), .ref 1], hp E w)) hM_153 4 rfl ?_
  rw [g4]
  refine Ev.iald hM_153 rfl (a := 0) rfl (inb_I b4 bE) ?_
  rw [I_clamp (Nat.lt_of_lt_of_le b4 bE)]
  refine Ev.run (c' := (788, [.ref 0, .ref 1, .ref 27, .ref 37, .int (I j1), u5, u6], [.ref 37, .int (E.2 j4), .int (E.2 j3), .int (E.2 j2), .ref 1], hp E w)) hM_153 1 rfl ?_
  rw [← a1] at h1
  rw [← a2] at h1
  rw [← a3] at h1
  refine Ev.callR hd hM_153 rfl (y := 148) (as := [.ref 1, .int (E.2 j2), .int (E.2 j3), .int (E.2 j4), .ref 37]) (rest := []) rfl (Nat.le_of_ble_eq_true rfl) h1 ?_
  refine Ev.run (c' := (799, [.ref 0, .ref 1, .ref 27, .ref 37, .int (I j1), .int v1, u6], [.int ((I j1) + (1 : Int32)), .ref 0, .ref 27], hp E w1)) hM_153 6 rfl ?_
  rw [g5]
  refine Ev.iald hM_153 rfl (a := 0) rfl (inb_I b5 bE) ?_
  rw [I_clamp (Nat.lt_of_lt_of_le b5 bE)]
  refine Ev.run (c' := (805, [.ref 0, .ref 1, .ref 27, .ref 37, .int (I j1), .int v1, u6], [.int ((I j1) + (2 : Int32)), .ref 0, .int (E.2 j5), .ref 27], hp E w1)) hM_153 4 rfl ?_
  rw [g6]
  refine Ev.iald hM_153 rfl (a := 0) rfl (inb_I b6 bE) ?_
  rw [I_clamp (Nat.lt_of_lt_of_le b6 bE)]
  refine Ev.run (c' := (811, [.ref 0, .ref 1, .ref 27, .ref 37, .int (I j1), .int v1, u6], [.int ((I j1) + (3 : Int32)), .ref 0, .int (E.2 j6), .int (E.2 j5), .ref 27], hp E w1)) hM_153 4 rfl ?_
  rw [g7]
  refine Ev.iald hM_153 rfl (a := 0) rfl (inb_I b7 bE) ?_
  rw [I_clamp (Nat.lt_of_lt_of_le b7 bE)]
  refine Ev.run (c' := (812, [.ref 0, .ref 1, .ref 27, .ref 37, .int (I j1), .int v1, u6], [.int (E.2 j7), .int (E.2 j6), .int (E.2 j5), .ref 27], hp E w1)) hM_153 0 rfl ?_
  rw [← a4] at h2
  rw [← a5] at h2
  rw [← a6] at h2
  refine Ev.callR hd hM_153 rfl (y := 123) (as := [.ref 27, .int (E.2 j5), .int (E.2 j6), .int (E.2 j7)]) (rest := []) rfl (Nat.le_of_ble_eq_true rfl) h2 ?_
  refine Ev.run (c' := (818, [.ref 0, .ref 1, .ref 27, .ref 37, .int (I j1), .int v1, .int v2], [.ref 27], hp E w2)) hM_153 2 rfl ?_
  refine Ev.callR hd hM_153 rfl (y := 96) (as := [.ref 27]) (rest := []) rfl (Nat.le_of_ble_eq_true rfl) (Ev.run (c' := (4, [.ref 27], [.int (gF w2 8)], hp E w2)) hM_96 2 rfl (Ev.fin hM_96 rfl rfl)) ?_
  refine Ev.run (c' := (823, [.ref 0, .ref 1, .ref 27, .ref 37, .int (I j1), .int v1, .int v2], [.int v1, .int (gF w2 8)], hp E w2)) hM_153 1 rfl ?_
  refine Ev.icT hM_153 rfl (cI_eqT c3) ?_
  refine Ev.run (c' := (830, [.ref 0, .ref 1, .ref 27, .ref 37, .int (I j1), .int v1, .int v2], [.int v1], hp E w2)) hM_153 1 rfl ?_
  refine Ev.ifT hM_153 rfl (cI_neT c4) ?_
  refine Ev.run (c' := (23, [.ref 0, .ref 1, .ref 27, .ref 37, .int ((I j1) + (5 : Int32)), .int v1, .int v2], [], hp E w2)) hM_153 3 rfl ?_
  exact e
theorem p153_23_r {E : Nat × (Nat → Int32)} {w : Wd} {d : Nat} {x4 : Int32} {u5 u6 : Value} {o : Ou} {j1 : Nat} {j2 : Nat} {j3 : Nat} {j4 : Nat} {z1 : Int32} {z2 : Int32} {z3 : Int32} {w1 : Wd} {v1 : Int32} {j5 : Nat} {j6 : Nat} {j7 : Nat} {z4 : Int32} {z5 : Int32} {z6 : Int32} {w2 : Wd} {v2 : Int32} {y4 : Int32} (hd : 1 ≤ d) (c1 : ¬ ((I E.1) - (5 : Int32)) < x4) (g1 : x4 = I j1) (b1 : j1 < E.1) (bE : E.1 ≤ 2147483648) (c2 : ((E.2 j1) &&& (31 : Int32)) = (9 : Int32)) (g2 : ((I j1) + (1 : Int32)) = I j2) (b2 : j2 < E.1) (g3 : ((I j1) + (2 : Int32)) = I j3) (b3 : j3 < E.1) (g4 : ((I j1) + (3 : Int32)) = I j4) (b4 : j4 < E.1) (a1 : (E.2 j2) = z1) (a2 : (E.2 j3) = z2) (a3 : (E.2 j4) = z3) (h1 : Ev (d - 1) 147 (ent0 147 [.ref 1, .int z1, .int z2, .int z3, .ref 37] (hp E w)) (.inl (some (.int v1)), hp E w1)) (g5 : ((I j1) + (1 : Int32)) = I j5) (b5 : j5 < E.1) (g6 : ((I j1) + (2 : Int32)) = I j6) (b6 : j6 < E.1) (g7 : ((I j1) + (3 : Int32)) = I j7) (b7 : j7 < E.1) (a4 : (E.2 j5) = z4) (a5 : (E.2 j6) = z5) (a6 : (E.2 j7) = z6) (h2 : Ev (d - 1) 122 (ent0 122 [.ref 27, .int z4, .int z5, .int z6] (hp E w1)) (.inl (some (.int v2)), hp E w2)) (c3 : (gF w2 8) = v1) (c4 : v1 = 0) (c5 : (lg_cmp (gO w2) ((v2).toInt64)) = 0) (q4 : ((I j1) + (5 : Int32)) = y4) (e : Ev d 153 (23, [.ref 0, .ref 1, .ref 27, .ref 37, .int y4, .int v1, .int v2], [], hp E w2) o) : Ev d 153 (23, [.ref 0, .ref 1, .ref 27, .ref 37, .int x4, u5, u6], [], hp E w) o := by
  subst q4
  refine Ev.run (c' := (29, [.ref 0, .ref 1, .ref 27, .ref 37, .int x4, u5, u6], [.int ((I E.1) - (5 : Int32)), .int x4], hp E w)) hM_153 5 rfl ?_
  refine Ev.icF hM_153 rfl (cI_gtF c1) ?_
  refine Ev.run (c' := (35, [.ref 0, .ref 1, .ref 27, .ref 37, .int x4, u5, u6], [.int x4, .ref 0], hp E w)) hM_153 2 rfl ?_
  subst g1
  refine Ev.iald hM_153 rfl (a := 0) rfl (inb_I b1 bE) ?_
  rw [I_clamp (Nat.lt_of_lt_of_le b1 bE)]
  refine Ev.run (c' := (39, [.ref 0, .ref 1, .ref 27, .ref 37, .int (I j1), u5, u6], [.int ((E.2 j1) &&& (31 : Int32))], hp E w)) hM_153 2 rfl ?_
  rw [c2]
  refine Ev.run (c' := (694, [.ref 0, .ref 1, .ref 27, .ref 37, .int (I j1), u5, u6], [.int ((I j1) + (1 : Int32)), .ref 0, .ref 1], hp E w)) hM_153 6 rfl ?_
  rw [g2]
  refine Ev.iald hM_153 rfl (a := 0) rfl (inb_I b2 bE) ?_
  rw [I_clamp (Nat.lt_of_lt_of_le b2 bE)]
  refine Ev.run (c' := (700, [.ref 0, .ref 1, .ref 27, .ref 37, .int (I j1), u5, u6], [.int ((I j1) + (2 : Int32)), .ref 0, .int (E.2 j2), .ref 1], hp E w)) hM_153 4 rfl ?_
  rw [g3]
  refine Ev.iald hM_153 rfl (a := 0) rfl (inb_I b3 bE) ?_
  rw [I_clamp (Nat.lt_of_lt_of_le b3 bE)]
  refine Ev.run (c' := (706, [.ref 0, .ref 1, .ref 27, .ref 37, .int (I j1), u5, u6], [.int ((I j1) + (3 : Int32)), .ref 0, .int (E.2 j3), .int (E.2 j2), .ref 1], hp E w)) hM_153 4 rfl ?_
  rw [g4]
  refine Ev.iald hM_153 rfl (a := 0) rfl (inb_I b4 bE) ?_
  rw [I_clamp (Nat.lt_of_lt_of_le b4 bE)]
  refine Ev.run (c' := (708, [.ref 0, .ref 1, .ref 27, .ref 37, .int (I j1), u5, u6], [.ref 37, .int (E.2 j4), .int (E.2 j3), .int (E.2 j2), .ref 1], hp E w)) hM_153 1 rfl ?_
  rw [← a1] at h1
  rw [← a2] at h1
  rw [← a3] at h1
  refine Ev.callR hd hM_153 rfl (y := 147) (as := [.ref 1, .int (E.2 j2), .int (E.2 j3), .int (E.2 j4), .ref 37]) (rest := []) rfl (Nat.le_of_ble_eq_true rfl) h1 ?_
  refine Ev.run (c' := (719, [.ref 0, .ref 1, .ref 27, .ref 37, .int (I j1), .int v1, u6], [.int ((I j1) + (1 : Int32)), .ref 0, .ref 27], hp E w1)) hM_153 6 rfl ?_
  rw [g5]
  refine Ev.iald hM_153 rfl (a := 0) rfl (inb_I b5 bE) ?_
  rw [I_clamp (Nat.lt_of_lt_of_le b5 bE)]
  refine Ev.run (c' := (725, [.ref 0, .ref 1, .ref 27, .ref 37, .int (I j1), .int v1, u6], [.int ((I j1) + (2 : Int32)), .ref 0, .int (E.2 j5), .ref 27], hp E w1)) hM_153 4 rfl ?_
  rw [g6]
  refine Ev.iald hM_153 rfl (a := 0) rfl (inb_I b6 bE) ?_
  rw [I_clamp (Nat.lt_of_lt_of_le b6 bE)]
  refine Ev.run (c' := (731, [.ref 0, .ref 1, .ref 27, .ref 37, .int (I j1), .int v1, u6], [.int ((I j1) + (3 : Int32)), .ref 0, .int (E.2 j6), .int (E.2 j5), .ref 27], hp E w1)) hM_153 4 rfl ?_
  rw [g7]
  refine Ev.iald hM_153 rfl (a := 0) rfl (inb_I b7 bE) ?_
  rw [I_clamp (Nat.lt_of_lt_of_le b7 bE)]
  refine Ev.run (c' := (732, [.ref 0, .ref 1, .ref 27, .ref 37, .int (I j1), .int v1, u6], [.int (E.2 j7), .int (E.2 j6), .int (E.2 j5), .ref 27], hp E w1)) hM_153 0 rfl ?_
  rw [← a4] at h2
  rw [← a5] at h2
  rw [← a6] at h2
  refine Ev.callR hd hM_153 rfl (y := 122) (as := [.ref 27, .int (E.2 j5), .int (E.2 j6), .int (E.2 j7)]) (rest := []) rfl (Nat.le_of_ble_eq_true rfl) h2 ?_
  refine Ev.run (c' := (738, [.ref 0, .ref 1, .ref 27, .ref 37, .int (I j1), .int v1, .int v2], [.ref 27], hp E w2)) hM_153 2 rfl ?_
  refine Ev.callR hd hM_153 rfl (y := 96) (as := [.ref 27]) (rest := []) rfl (Nat.le_of_ble_eq_true rfl) (Ev.run (c' := (4, [.ref 27], [.int (gF w2 8)], hp E w2)) hM_96 2 rfl (Ev.fin hM_96 rfl rfl)) ?_
  refine Ev.run (c' := (743, [.ref 0, .ref 1, .ref 27, .ref 37, .int (I j1), .int v1, .int v2], [.int v1, .int (gF w2 8)], hp E w2)) hM_153 1 rfl ?_
  refine Ev.icT hM_153 rfl (cI_eqT c3) ?_
  refine Ev.run (c' := (750, [.ref 0, .ref 1, .ref 27, .ref 37, .int (I j1), .int v1, .int v2], [.int v1], hp E w2)) hM_153 1 rfl ?_
  refine Ev.ifF hM_153 rfl (cI_neF c4) ?_
  refine Ev.run (c' := (760, [.ref 0, .ref 1, .ref 27, .ref 37, .int (I j1), .int v1, .int v2], [.int (lg_cmp (gO w2) ((v2).toInt64))], hp E w2)) hM_153 6 rfl ?_
  refine Ev.ifT hM_153 rfl (cI_eqT c5) ?_
  refine Ev.run (c' := (23, [.ref 0, .ref 1, .ref 27, .ref 37, .int ((I j1) + (5 : Int32)), .int v1, .int v2], [], hp E w2)) hM_153 3 rfl ?_
  exact e
theorem p153_23_s {E : Nat × (Nat → Int32)} {w : Wd} {d : Nat} {x4 : Int32} {u5 u6 : Value} {o : Ou} {j1 : Nat} {j2 : Nat} {j3 : Nat} {j4 : Nat} {z1 : Int32} {z2 : Int32} {z3 : Int32} {w1 : Wd} {v1 : Int32} {j5 : Nat} {j6 : Nat} {j7 : Nat} {z4 : Int32} {z5 : Int32} {z6 : Int32} {w2 : Wd} {v2 : Int32} {y4 : Int32} (hd : 1 ≤ d) (c1 : ¬ ((I E.1) - (5 : Int32)) < x4) (g1 : x4 = I j1) (b1 : j1 < E.1) (bE : E.1 ≤ 2147483648) (c2 : ((E.2 j1) &&& (31 : Int32)) = (9 : Int32)) (g2 : ((I j1) + (1 : Int32)) = I j2) (b2 : j2 < E.1) (g3 : ((I j1) + (2 : Int32)) = I j3) (b3 : j3 < E.1) (g4 : ((I j1) + (3 : Int32)) = I j4) (b4 : j4 < E.1) (a1 : (E.2 j2) = z1) (a2 : (E.2 j3) = z2) (a3 : (E.2 j4) = z3) (h1 : Ev (d - 1) 147 (ent0 147 [.ref 1, .int z1, .int z2, .int z3, .ref 37] (hp E w)) (.inl (some (.int v1)), hp E w1)) (g5 : ((I j1) + (1 : Int32)) = I j5) (b5 : j5 < E.1) (g6 : ((I j1) + (2 : Int32)) = I j6) (b6 : j6 < E.1) (g7 : ((I j1) + (3 : Int32)) = I j7) (b7 : j7 < E.1) (a4 : (E.2 j5) = z4) (a5 : (E.2 j6) = z5) (a6 : (E.2 j7) = z6) (h2 : Ev (d - 1) 122 (ent0 122 [.ref 27, .int z4, .int z5, .int z6] (hp E w1)) (.inl (some (.int v2)), hp E w2)) (c3 : (gF w2 8) = v1) (c4 : ¬ v1 = 0) (q4 : ((I j1) + (5 : Int32)) = y4) (e : Ev d 153 (23, [.ref 0, .ref 1, .ref 27, .ref 37, .int y4, .int v1, .int v2], [], hp E w2) o) : Ev d 153 (23, [.ref 0, .ref 1, .ref 27, .ref 37, .int x4, u5, u6], [], hp E w) o := by
  subst q4
  refine Ev.run (c' := (29, [.ref 0, .ref 1, .ref 27, .ref 37, .int x4, u5, u6], [.int ((I E.1) - (5 : Int32)), .int x4], hp E w)) hM_153 5 rfl ?_
  refine Ev.icF hM_153 rfl (cI_gtF c1) ?_
  refine Ev.run (c' := (35, [.ref 0, .ref 1, .ref 27, .ref 37, .int x4, u5, u6], [.int x4, .ref 0], hp E w)) hM_153 2 rfl ?_
  subst g1
  refine Ev.iald hM_153 rfl (a := 0) rfl (inb_I b1 bE) ?_
  rw [I_clamp (Nat.lt_of_lt_of_le b1 bE)]
  refine Ev.run (c' := (39, [.ref 0, .ref 1, .ref 27, .ref 37, .int (I j1), u5, u6], [.int ((E.2 j1) &&& (31 : Int32))], hp E w)) hM_153 2 rfl ?_
  rw [c2]
  refine Ev.run (c' := (694, [.ref 0, .ref 1, .ref 27, .ref 37, .int (I j1), u5, u6], [.int ((I j1) + (1 : Int32)), .ref 0, .ref 1], hp E w)) hM_153 6 rfl ?_
  rw [g2]
  refine Ev.iald hM_153 rfl (a := 0) rfl (inb_I b2 bE) ?_
  rw [I_clamp (Nat.lt_of_lt_of_le b2 bE)]
  refine Ev.run (c' := (700, [.ref 0, .ref 1, .ref 27, .ref 37, .int (I j1), u5, u6], [.int ((I j1) + (2 : Int32)), .ref 0, .int (E.2 j2), .ref 1], hp E w)) hM_153 4 rfl ?_
  rw [g3]
  refine Ev.iald hM_153 rfl (a := 0) rfl (inb_I b3 bE) ?_
  rw [I_clamp (Nat.lt_of_lt_of_le b3 bE)]
  refine Ev.run (c' := (706, [.ref 0, .ref 1, .ref 27, .ref 37, .int (I j1), u5, u6], [.int ((I j1) + (3 : Int32)), .ref 0, .int (E.2 j3), .int (E.2 j2), .ref 1], hp E w)) hM_153 4 rfl ?_
  rw [g4]
  refine Ev.iald hM_153 rfl (a := 0) rfl (inb_I b4 bE) ?_
  rw [I_clamp (Nat.lt_of_lt_of_le b4 bE)]
  refine Ev.run (c' := (708, [.ref 0, .ref 1, .ref 27, .ref 37, .int (I j1), u5, u6], [.ref 37, .int (E.2 j4), .int (E.2 j3), .int (E.2 j2), .ref 1], hp E w)) hM_153 1 rfl ?_
  rw [← a1] at h1
  rw [← a2] at h1
  rw [← a3] at h1
  refine Ev.callR hd hM_153 rfl (y := 147) (as := [.ref 1, .int (E.2 j2), .int (E.2 j3), .int (E.2 j4), .ref 37]) (rest := []) rfl (Nat.le_of_ble_eq_true rfl) h1 ?_
  refine Ev.run (c' := (719, [.ref 0, .ref 1, .ref 27, .ref 37, .int (I j1), .int v1, u6], [.int ((I j1) + (1 : Int32)), .ref 0, .ref 27], hp E w1)) hM_153 6 rfl ?_
  rw [g5]
  refine Ev.iald hM_153 rfl (a := 0) rfl (inb_I b5 bE) ?_
  rw [I_clamp (Nat.lt_of_lt_of_le b5 bE)]
  refine Ev.run (c' := (725, [.ref 0, .ref 1, .ref 27, .ref 37, .int (I j1), .int v1, u6], [.int ((I j1) + (2 : Int32)), .ref 0, .int (E.2 j5), .ref 27], hp E w1)) hM_153 4 rfl ?_
  rw [g6]
  refine Ev.iald hM_153 rfl (a := 0) rfl (inb_I b6 bE) ?_
  rw [I_clamp (Nat.lt_of_lt_of_le b6 bE)]
  refine Ev.run (c' := (731, [.ref 0, .ref 1, .ref 27, .ref 37, .int (I j1), .int v1, u6], [.int ((I j1) + (3 : Int32)), .ref 0, .int (E.2 j6), .int (E.2 j5), .ref 27], hp E w1)) hM_153 4 rfl ?_
  rw [g7]
  refine Ev.iald hM_153 rfl (a := 0) rfl (inb_I b7 bE) ?_
  rw [I_clamp (Nat.lt_of_lt_of_le b7 bE)]
  refine Ev.run (c' := (732, [.ref 0, .ref 1, .ref 27, .ref 37, .int (I j1), .int v1, u6], [.int (E.2 j7), .int (E.2 j6), .int (E.2 j5), .ref 27], hp E w1)) hM_153 0 rfl ?_
  rw [← a4] at h2
  rw [← a5] at h2
  rw [← a6] at h2
  refine Ev.callR hd hM_153 rfl (y := 122) (as := [.ref 27, .int (E.2 j5), .int (E.2 j6), .int (E.2 j7)]) (rest := []) rfl (Nat.le_of_ble_eq_true rfl) h2 ?_
  refine Ev.run (c' := (738, [.ref 0, .ref 1, .ref 27, .ref 37, .int (I j1), .int v1, .int v2], [.ref 27], hp E w2)) hM_153 2 rfl ?_
  refine Ev.callR hd hM_153 rfl (y := 96) (as := [.ref 27]) (rest := []) rfl (Nat.le_of_ble_eq_true rfl) (Ev.run (c' := (4, [.ref 27], [.int (gF w2 8)], hp E w2)) hM_96 2 rfl (Ev.fin hM_96 rfl rfl)) ?_
  refine Ev.run (c' := (743, [.ref 0, .ref 1, .ref 27, .ref 37, .int (I j1), .int v1, .int v2], [.int v1, .int (gF w2 8)], hp E w2)) hM_153 1 rfl ?_
  refine Ev.icT hM_153 rfl (cI_eqT c3) ?_
  refine Ev.run (c' := (750, [.ref 0, .ref 1, .ref 27, .ref 37, .int (I j1), .int v1, .int v2], [.int v1], hp E w2)) hM_153 1 rfl ?_
  refine Ev.ifT hM_153 rfl (cI_neT c4) ?_
  refine Ev.run (c' := (23, [.ref 0, .ref 1, .ref 27, .ref 37, .int ((I j1) + (5 : Int32)), .int v1, .int v2], [], hp E w2)) hM_153 3 rfl ?_
  exact e
theorem p153_23_t {E : Nat × (Nat → Int32)} {w : Wd} {d : Nat} {x4 : Int32} {u5 u6 : Value} {o : Ou} {j1 : Nat} {j2 : Nat} {j3 : Nat} {j4 : Nat} {j5 : Nat} {z1 : Int32} {z2 : Int32} {z3 : Int32} {z4 : Int32} {w1 : Wd} {v1 : Int32} {j6 : Nat} {j7 : Nat} {j8 : Nat} {j9 : Nat} {z5 : Int32} {z6 : Int32} {z7 : Int32} {z8 : Int32} {w2 : Wd} {v2 : Int32} {y4 : Int32} (hd : 1 ≤ d) (c1 : ¬ ((I E.1) - (5 : Int32)) < x4) (g1 : x4 = I j1) (b1 : j1 < E.1) (bE : E.1 ≤ 2147483648) (c2 : ((E.2 j1) &&& (31 : Int32)) = (8 : Int32)) (g2 : ((I j1) + (1 : Int32)) = I j2) (b2 : j2 < E.1) (g3 : ((I j1) + (2 : Int32)) = I j3) (b3 : j3 < E.1) (g4 : ((I j1) + (3 : Int32)) = I j4) (b4 : j4 < E.1) (g5 : ((I j1) + (4 : Int32)) = I j5) (b5 : j5 < E.1) (a1 : (E.2 j2) = z1) (a2 : (E.2 j3) = z2) (a3 : (E.2 j4) = z3) (a4 : (E.2 j5) = z4) (h1 : Ev (d - 1) 146 (ent0 146 [.ref 1, .int z1, .int z2, .int z3, .int z4, .ref 37] (hp E w)) (.inl (some (.int v1)), hp E w1)) (g6 : ((I j1) + (1 : Int32)) = I j6) (b6 : j6 < E.1) (g7 : ((I j1) + (2 : Int32)) = I j7) (b7 : j7 < E.1) (g8 : ((I j1) + (3 : Int32)) = I j8) (b8 : j8 < E.1) (g9 : ((I j1) + (4 : Int32)) = I j9) (b9 : j9 < E.1) (a5 : (E.2 j6) = z5) (a6 : (E.2 j7) = z6) (a7 : (E.2 j8) = z7) (a8 : (E.2 j9) = z8) (h2 : Ev (d - 1) 121 (ent0 121 [.ref 27, .int z5, .int z6, .int z7, .int z8] (hp E w1)) (.inl (some (.int v2)), hp E w2)) (c3 : (gF w2 8) = v1) (c4 : v1 = 0) (c5 : (lg_cmp (gO w2) ((v2).toInt64)) = 0) (q4 : ((I j1) + (5 : Int32)) = y4) (e : Ev d 153 (23, [.ref 0, .ref 1, .ref 27, .ref 37, .int y4, .int v1, .int v2], [], hp E w2) o) : Ev d 153 (23, [.ref 0, .ref 1, .ref 27, .ref 37, .int x4, u5, u6], [], hp E w) o := by
  subst q4
  refine Ev.run (c' := (29, [.ref 0, .ref 1, .ref 27, .ref 37, .int x4, u5, u6], [.int ((I E.1) - (5 : Int32)), .int x4], hp E w)) hM_153 5 rfl ?_
  refine Ev.icF hM_153 rfl (cI_gtF c1) ?_
  refine Ev.run (c' := (35, [.ref 0, .ref 1, .ref 27, .ref 37, .int x4, u5, u6], [.int x4, .ref 0], hp E w)) hM_153 2 rfl ?_
  subst g1
  refine Ev.iald hM_153 rfl (a := 0) rfl (inb_I b1 bE) ?_
  rw [I_clamp (Nat.lt_of_lt_of_le b1 bE)]
  refine Ev.run (c' := (39, [.ref 0, .ref 1, .ref 27, .ref 37, .int (I j1), u5, u6], [.int ((E.2 j1) &&& (31 : Int32))], hp E w)) hM_153 2 rfl ?_
  rw [c2]
  refine Ev.run (c' := (602, [.ref 0, .ref 1, .ref 27, .ref 37, .int (I j1), u5, u6], [.int ((I j1) + (1 : Int32)), .ref 0, .ref 1], hp E w)) hM_153 6 rfl ?_
  rw [g2]
  refine Ev.iald hM_153 rfl (a := 0) rfl (inb_I b2 bE) ?_
  rw [I_clamp (Nat.lt_of_lt_of_le b2 bE)]
  refine Ev.run (c' := (608, [.ref 0, .ref 1, .ref 27, .ref 37, .int (I j1), u5, u6], [.int ((I j1) + (2 : Int32)), .ref 0, .int (E.2 j2), .ref 1], hp E w)) hM_153 4 rfl ?_
  rw [g3]
  refine Ev.iald hM_153 rfl (a := 0) rfl (inb_I b3 bE) ?_
  rw [I_clamp (Nat.lt_of_lt_of_le b3 bE)]
  refine Ev.run (c' := (614, [.ref 0, .ref 1, .ref 27, .ref 37, .int (I j1), u5, u6], [.int ((I j1) + (3 : Int32)), .ref 0, .int (E.2 j3), .int (E.2 j2), .ref 1], hp E w)) hM_153 4 rfl ?_
  rw [g4]
  refine Ev.iald hM_153 rfl (a := 0) rfl (inb_I b4 bE) ?_
  rw [I_clamp (Nat.lt_of_lt_of_le b4 bE)]
  refine Ev.run (c' := (620, [.ref 0, .ref 1, .ref 27, .ref 37, .int (I j1), u5, u6], [.int ((I j1) + (4 : Int32)), .ref 0, .int (E.2 j4), .int (E.2 j3), .int (E.2 j2), .ref 1], hp E w)) hM_153 4 rfl ?_
  rw [g5]
  refine Ev.iald hM_153 rfl (a := 0) rfl (inb_I b5 bE) ?_
  rw [I_clamp (Nat.lt_of_lt_of_le b5 bE)]
  refine Ev.run (c' := (622, [.ref 0, .ref 1, .ref 27, .ref 37, .int (I j1), u5, u6], [.ref 37, .int (E.2 j5), .int (E.2 j4), .int (E.2 j3), .int (E.2 j2), .ref 1], hp E w)) hM_153 1 rfl ?_
  rw [← a1] at h1
  rw [← a2] at h1
  rw [← a3] at h1
  rw [← a4] at h1
  refine Ev.callR hd hM_153 rfl (y := 146) (as := [.ref 1, .int (E.2 j2), .int (E.2 j3), .int (E.2 j4), .int (E.2 j5), .ref 37]) (rest := []) rfl (Nat.le_of_ble_eq_true rfl) h1 ?_
  refine Ev.run (c' := (633, [.ref 0, .ref 1, .ref 27, .ref 37, .int (I j1), .int v1, u6], [.int ((I j1) + (1 : Int32)), .ref 0, .ref 27], hp E w1)) hM_153 6 rfl ?_
  rw [g6]
  refine Ev.iald hM_153 rfl (a := 0) rfl (inb_I b6 bE) ?_
  rw [I_clamp (Nat.lt_of_lt_of_le b6 bE)]
  refine Ev.run (c' := (639, [.ref 0, .ref 1, .ref 27, .ref 37, .int (I j1), .int v1, u6], [.int ((I j1) + (2 : Int32)), .ref 0, .int (E.2 j6), .ref 27], hp E w1)) hM_153 4 rfl ?_
  rw [g7]
  refine Ev.iald hM_153 rfl (a := 0) rfl (inb_I b7 bE) ?_
  rw [I_clamp (Nat.lt_of_lt_of_le b7 bE)]
  refine Ev.run (c' := (645, [.ref 0, .ref 1, .ref 27, .ref 37, .int (I j1), .int v1, u6], [.int ((I j1) + (3 : Int32)), .ref 0, .int (E.2 j7), .int (E.2 j6), .ref 27], hp E w1)) hM_153 4 rfl ?_
  rw [g8]
  refine Ev.iald hM_153 rfl (a := 0) rfl (inb_I b8 bE) ?_
  rw [I_clamp (Nat.lt_of_lt_of_le b8 bE)]
  refine Ev.run (c' := (651, [.ref 0, .ref 1, .ref 27, .ref 37, .int (I j1), .int v1, u6], [.int ((I j1) + (4 : Int32)), .ref 0, .int (E.2 j8), .int (E.2 j7), .int (E.2 j6), .ref 27], hp E w1)) hM_153 4 rfl ?_
  rw [g9]
  refine Ev.iald hM_153 rfl (a := 0) rfl (inb_I b9 bE) ?_
  rw [I_clamp (Nat.lt_of_lt_of_le b9 bE)]
  refine Ev.run (c' := (652, [.ref 0, .ref 1, .ref 27, .ref 37, .int (I j1), .int v1, u6], [.int (E.2 j9), .int (E.2 j8), .int (E.2 j7), .int (E.2 j6), .ref 27], hp E w1)) hM_153 0 rfl ?_
  rw [← a5] at h2
  rw [← a6] at h2
  rw [← a7] at h2
  rw [← a8] at h2
  refine Ev.callR hd hM_153 rfl (y := 121) (as := [.ref 27, .int (E.2 j6), .int (E.2 j7), .int (E.2 j8), .int (E.2 j9)]) (rest := []) rfl (Nat.le_of_ble_eq_true rfl) h2 ?_
  refine Ev.run (c' := (658, [.ref 0, .ref 1, .ref 27, .ref 37, .int (I j1), .int v1, .int v2], [.ref 27], hp E w2)) hM_153 2 rfl ?_
  refine Ev.callR hd hM_153 rfl (y := 96) (as := [.ref 27]) (rest := []) rfl (Nat.le_of_ble_eq_true rfl) (Ev.run (c' := (4, [.ref 27], [.int (gF w2 8)], hp E w2)) hM_96 2 rfl (Ev.fin hM_96 rfl rfl)) ?_
  refine Ev.run (c' := (663, [.ref 0, .ref 1, .ref 27, .ref 37, .int (I j1), .int v1, .int v2], [.int v1, .int (gF w2 8)], hp E w2)) hM_153 1 rfl ?_
  refine Ev.icT hM_153 rfl (cI_eqT c3) ?_
  refine Ev.run (c' := (670, [.ref 0, .ref 1, .ref 27, .ref 37, .int (I j1), .int v1, .int v2], [.int v1], hp E w2)) hM_153 1 rfl ?_
  refine Ev.ifF hM_153 rfl (cI_neF c4) ?_
  refine Ev.run (c' := (680, [.ref 0, .ref 1, .ref 27, .ref 37, .int (I j1), .int v1, .int v2], [.int (lg_cmp (gO w2) ((v2).toInt64))], hp E w2)) hM_153 6 rfl ?_
  refine Ev.ifT hM_153 rfl (cI_eqT c5) ?_
  refine Ev.run (c' := (23, [.ref 0, .ref 1, .ref 27, .ref 37, .int ((I j1) + (5 : Int32)), .int v1, .int v2], [], hp E w2)) hM_153 3 rfl ?_
  exact e
theorem p153_23_u {E : Nat × (Nat → Int32)} {w : Wd} {d : Nat} {x4 : Int32} {u5 u6 : Value} {o : Ou} {j1 : Nat} {j2 : Nat} {j3 : Nat} {j4 : Nat} {j5 : Nat} {z1 : Int32} {z2 : Int32} {z3 : Int32} {z4 : Int32} {w1 : Wd} {v1 : Int32} {j6 : Nat} {j7 : Nat} {j8 : Nat} {j9 : Nat} {z5 : Int32} {z6 : Int32} {z7 : Int32} {z8 : Int32} {w2 : Wd} {v2 : Int32} {y4 : Int32} (hd : 1 ≤ d) (c1 : ¬ ((I E.1) - (5 : Int32)) < x4) (g1 : x4 = I j1) (b1 : j1 < E.1) (bE : E.1 ≤ 2147483648) (c2 : ((E.2 j1) &&& (31 : Int32)) = (8 : Int32)) (g2 : ((I j1) + (1 : Int32)) = I j2) (b2 : j2 < E.1) (g3 : ((I j1) + (2 : Int32)) = I j3) (b3 : j3 < E.1) (g4 : ((I j1) + (3 : Int32)) = I j4) (b4 : j4 < E.1) (g5 : ((I j1) + (4 : Int32)) = I j5) (b5 : j5 < E.1) (a1 : (E.2 j2) = z1) (a2 : (E.2 j3) = z2) (a3 : (E.2 j4) = z3) (a4 : (E.2 j5) = z4) (h1 : Ev (d - 1) 146 (ent0 146 [.ref 1, .int z1, .int z2, .int z3, .int z4, .ref 37] (hp E w)) (.inl (some (.int v1)), hp E w1)) (g6 : ((I j1) + (1 : Int32)) = I j6) (b6 : j6 < E.1) (g7 : ((I j1) + (2 : Int32)) = I j7) (b7 : j7 < E.1) (g8 : ((I j1) + (3 : Int32)) = I j8) (b8 : j8 < E.1) (g9 : ((I j1) + (4 : Int32)) = I j9) (b9 : j9 < E.1) (a5 : (E.2 j6) = z5) (a6 : (E.2 j7) = z6) (a7 : (E.2 j8) = z7) (a8 : (E.2 j9) = z8) (h2 : Ev (d - 1) 121 (ent0 121 [.ref 27, .int z5, .int z6, .int z7, .int z8] (hp E w1)) (.inl (some (.int v2)), hp E w2)) (c3 : (gF w2 8) = v1) (c4 : ¬ v1 = 0) (q4 : ((I j1) + (5 : Int32)) = y4) (e : Ev d 153 (23, [.ref 0, .ref 1, .ref 27, .ref 37, .int y4, .int v1, .int v2], [], hp E w2) o) : Ev d 153 (23, [.ref 0, .ref 1, .ref 27, .ref 37, .int x4, u5, u6], [], hp E w) o := by
  subst q4
  refine Ev.run (c' := (29, [.ref 0, .ref 1, .ref 27, .ref 37, .int x4, u5, u6], [.int ((I E.1) - (5 : Int32)), .int x4], hp E w)) hM_153 5 rfl ?_
  refine Ev.icF hM_153 rfl (cI_gtF c1) ?_
  refine Ev.run (c' := (35, [.ref 0, .ref 1, .ref 27, .ref 37, .int x4, u5, u6], [.int x4, .ref 0], hp E w)) hM_153 2 rfl ?_
  subst g1
  refine Ev.iald hM_153 rfl (a := 0) rfl (inb_I b1 bE) ?_
  rw [I_clamp (Nat.lt_of_lt_of_le b1 bE)]
  refine Ev.run (c' := (39, [.ref 0, .ref 1, .ref 27, .ref 37, .int (I j1), u5, u6], [.int ((E.2 j1) &&& (31 : Int32))], hp E w)) hM_153 2 rfl ?_
  rw [c2]
  refine Ev.run (c' := (602, [.ref 0, .ref 1, .ref 27, .ref 37, .int (I j1), u5, u6], [.int ((I j1) + (1 : Int32)), .ref 0, .ref 1], hp E w)) hM_153 6 rfl ?_
  rw [g2]
  refine Ev.iald hM_153 rfl (a := 0) rfl (inb_I b2 bE) ?_
  rw [I_clamp (Nat.lt_of_lt_of_le b2 bE)]
  refine Ev.run (c' := (608, [.ref 0, .ref 1, .ref 27, .ref 37, .int (I j1), u5, u6], [.int ((I j1) + (2 : Int32)), .ref 0, .int (E.2 j2), .ref 1], hp E w)) hM_153 4 rfl ?_
  rw [g3]
  refine Ev.iald hM_153 rfl (a := 0) rfl (inb_I b3 bE) ?_
  rw [I_clamp (Nat.lt_of_lt_of_le b3 bE)]
  refine Ev.run (c' := (614, [.ref 0, .ref 1, .ref 27, .ref 37, .int (I j1), u5, u6], [.int ((I j1) + (3 : Int32)), .ref 0, .int (E.2 j3), .int (E.2 j2), .ref 1], hp E w)) hM_153 4 rfl ?_
  rw [g4]
  refine Ev.iald hM_153 rfl (a := 0) rfl (inb_I b4 bE) ?_
  rw [I_clamp (Nat.lt_of_lt_of_le b4 bE)]
  refine Ev.run (c' := (620, [.ref 0, .ref 1, .ref 27, .ref 37, .int (I j1), u5, u6], [.int ((I j1) + (4 : Int32)), .ref 0, .int (E.2 j4), .int (E.2 j3), .int (E.2 j2), .ref 1], hp E w)) hM_153 4 rfl ?_
  rw [g5]
  refine Ev.iald hM_153 rfl (a := 0) rfl (inb_I b5 bE) ?_
  rw [I_clamp (Nat.lt_of_lt_of_le b5 bE)]
  refine Ev.run (c' := (622, [.ref 0, .ref 1, .ref 27, .ref 37, .int (I j1), u5, u6], [.ref 37, .int (E.2 j5), .int (E.2 j4), .int (E.2 j3), .int (E.2 j2), .ref 1], hp E w)) hM_153 1 rfl ?_
  rw [← a1] at h1
  rw [← a2] at h1
  rw [← a3] at h1
  rw [← a4] at h1
  refine Ev.callR hd hM_153 rfl (y := 146) (as := [.ref 1, .int (E.2 j2), .int (E.2 j3), .int (E.2 j4), .int (E.2 j5), .ref 37]) (rest := []) rfl (Nat.le_of_ble_eq_true rfl) h1 ?_
  refine Ev.run (c' := (633, [.ref 0, .ref 1, .ref 27, .ref 37, .int (I j1), .int v1, u6], [.int ((I j1) + (1 : Int32)), .ref 0, .ref 27], hp E w1)) hM_153 6 rfl ?_
  rw [g6]
  refine Ev.iald hM_153 rfl (a := 0) rfl (inb_I b6 bE) ?_
  rw [I_clamp (Nat.lt_of_lt_of_le b6 bE)]
  refine Ev.run (c' := (639, [.ref 0, .ref 1, .ref 27, .ref 37, .int (I j1), .int v1, u6], [.int ((I j1) + (2 : Int32)), .ref 0, .int (E.2 j6), .ref 27], hp E w1)) hM_153 4 rfl ?_
  rw [g7]
  refine Ev.iald hM_153 rfl (a := 0) rfl (inb_I b7 bE) ?_
  rw [I_clamp (Nat.lt_of_lt_of_le b7 bE)]
  refine Ev.run (c' := (645, [.ref 0, .ref 1, .ref 27, .ref 37, .int (I j1), .int v1, u6], [.int ((I j1) + (3 : Int32)), .ref 0, .int (E.2 j7), .int (E.2 j6), .ref 27], hp E w1)) hM_153 4 rfl ?_
  rw [g8]
  refine Ev.iald hM_153 rfl (a := 0) rfl (inb_I b8 bE) ?_
  rw [I_clamp (Nat.lt_of_lt_of_le b8 bE)]
  refine Ev.run (c' := (651, [.ref 0, .ref 1, .ref 27, .ref 37, .int (I j1), .int v1, u6], [.int ((I j1) + (4 : Int32)), .ref 0, .int (E.2 j8), .int (E.2 j7), .int (E.2 j6), .ref 27], hp E w1)) hM_153 4 rfl ?_
  rw [g9]
  refine Ev.iald hM_153 rfl (a := 0) rfl (inb_I b9 bE) ?_
  rw [I_clamp (Nat.lt_of_lt_of_le b9 bE)]
  refine Ev.run (c' := (652, [.ref 0, .ref 1, .ref 27, .ref 37, .int (I j1), .int v1, u6], [.int (E.2 j9), .int (E.2 j8), .int (E.2 j7), .int (E.2 j6), .ref 27], hp E w1)) hM_153 0 rfl ?_
  rw [← a5] at h2
  rw [← a6] at h2
  rw [← a7] at h2
  rw [← a8] at h2
  refine Ev.callR hd hM_153 rfl (y := 121) (as := [.ref 27, .int (E.2 j6), .int (E.2 j7), .int (E.2 j8), .int (E.2 j9)]) (rest := []) rfl (Nat.le_of_ble_eq_true rfl) h2 ?_
  refine Ev.run (c' := (658, [.ref 0, .ref 1, .ref 27, .ref 37, .int (I j1), .int v1, .int v2], [.ref 27], hp E w2)) hM_153 2 rfl ?_
  refine Ev.callR hd hM_153 rfl (y := 96) (as := [.ref 27]) (rest := []) rfl (Nat.le_of_ble_eq_true rfl) (Ev.run (c' := (4, [.ref 27], [.int (gF w2 8)], hp E w2)) hM_96 2 rfl (Ev.fin hM_96 rfl rfl)) ?_
  refine Ev.run (c' := (663, [.ref 0, .ref 1, .ref 27, .ref 37, .int (I j1), .int v1, .int v2], [.int v1, .int (gF w2 8)], hp E w2)) hM_153 1 rfl ?_
  refine Ev.icT hM_153 rfl (cI_eqT c3) ?_
  refine Ev.run (c' := (670, [.ref 0, .ref 1, .ref 27, .ref 37, .int (I j1), .int v1, .int v2], [.int v1], hp E w2)) hM_153 1 rfl ?_
  refine Ev.ifT hM_153 rfl (cI_neT c4) ?_
  refine Ev.run (c' := (23, [.ref 0, .ref 1, .ref 27, .ref 37, .int ((I j1) + (5 : Int32)), .int v1, .int v2], [], hp E w2)) hM_153 3 rfl ?_
  exact e
theorem p153_23_v {E : Nat × (Nat → Int32)} {w : Wd} {d : Nat} {x4 : Int32} {u5 u6 : Value} {o : Ou} {j1 : Nat} {j2 : Nat} {j3 : Nat} {j4 : Nat} {z1 : Int32} {z2 : Int32} {z3 : Int32} {w1 : Wd} {v1 : Int32} {j5 : Nat} {j6 : Nat} {j7 : Nat} {z4 : Int32} {z5 : Int32} {z6 : Int32} {w2 : Wd} {v2 : Int32} {y4 : Int32} (hd : 1 ≤ d) (c1 : ¬ ((I E.1) - (5 : Int32)) < x4) (g1 : x4 = I j1) (b1 : j1 < E.1) (bE : E.1 ≤ 2147483648) (c2 : ((E.2 j1) &&& (31 : Int32)) = (7 : Int32)) (g2 : ((I j1) + (1 : Int32)) = I j2) (b2 : j2 < E.1) (g3 : ((I j1) + (2 : Int32)) = I j3) (b3 : j3 < E.1) (g4 : ((I j1) + (3 : Int32)) = I j4) (b4 : j4 < E.1) (a1 : (E.2 j2) = z1) (a2 : (E.2 j3) = z2) (a3 : (E.2 j4) = z3) (h1 : Ev (d - 1) 145 (ent0 145 [.ref 1, .int z1, .int z2, .int z3, .ref 37] (hp E w)) (.inl (some (.int v1)), hp E w1)) (g5 : ((I j1) + (1 : Int32)) = I j5) (b5 : j5 < E.1) (g6 : ((I j1) + (2 : Int32)) = I j6) (b6 : j6 < E.1) (g7 : ((I j1) + (3 : Int32)) = I j7) (b7 : j7 < E.1) (a4 : (E.2 j5) = z4) (a5 : (E.2 j6) = z5) (a6 : (E.2 j7) = z6) (h2 : Ev (d - 1) 120 (ent0 120 [.ref 27, .int z4, .int z5, .int z6] (hp E w1)) (.inl (some (.int v2)), hp E w2)) (c3 : (gF w2 8) = v1) (c4 : v1 = 0) (c5 : (lg_cmp (gO w2) ((v2).toInt64)) = 0) (q4 : ((I j1) + (5 : Int32)) = y4) (e : Ev d 153 (23, [.ref 0, .ref 1, .ref 27, .ref 37, .int y4, .int v1, .int v2], [], hp E w2) o) : Ev d 153 (23, [.ref 0, .ref 1, .ref 27, .ref 37, .int x4, u5, u6], [], hp E w) o := by
  subst q4
  refine Ev.run (c' := (29, [.ref 0, .ref 1, .ref 27, .ref 37, .int x4, u5, u6], [.int ((I E.1) - (5 : Int32)), .int x4], hp E w)) hM_153 5 rfl ?_
  refine Ev.icF hM_153 rfl (cI_gtF c1) ?_
  refine Ev.run (c' := (35, [.ref 0, .ref 1, .ref 27, .ref 37, .int x4, u5, u6], [.int x4, .ref 0], hp E w)) hM_153 2 rfl ?_
  subst g1
  refine Ev.iald hM_153 rfl (a := 0) rfl (inb_I b1 bE) ?_
  rw [I_clamp (Nat.lt_of_lt_of_le b1 bE)]
  refine Ev.run (c' := (39, [.ref 0, .ref 1, .ref 27, .ref 37, .int (I j1), u5, u6], [.int ((E.2 j1) &&& (31 : Int32))], hp E w)) hM_153 2 rfl ?_
  rw [c2]
  refine Ev.run (c' := (522, [.ref 0, .ref 1, .ref 27, .ref 37, .int (I j1), u5, u6], [.int ((I j1) + (1 : Int32)), .ref 0, .ref 1], hp E w)) hM_153 6 rfl ?_
  rw [g2]
  refine Ev.iald hM_153 rfl (a := 0) rfl (inb_I b2 bE) ?_
  rw [I_clamp (Nat.lt_of_lt_of_le b2 bE)]
  refine Ev.run (c' := (528, [.ref 0, .ref 1, .ref 27, .ref 37, .int (I j1), u5, u6], [.int ((I j1) + (2 : Int32)), .ref 0, .int (E.2 j2), .ref 1], hp E w)) hM_153 4 rfl ?_
  rw [g3]
  refine Ev.iald hM_153 rfl (a := 0) rfl (inb_I b3 bE) ?_
  rw [I_clamp (Nat.lt_of_lt_of_le b3 bE)]
  refine Ev.run (c' := (534, [.ref 0, .ref 1, .ref 27, .ref 37, .int (I j1), u5, u6], [.int ((I j1) + (3 : Int32)), .ref 0, .int (E.2 j3), .int (E.2 j2), .ref 1], hp E w)) hM_153 4 rfl ?_
  rw [g4]
  refine Ev.iald hM_153 rfl (a := 0) rfl (inb_I b4 bE) ?_
  rw [I_clamp (Nat.lt_of_lt_of_le b4 bE)]
  refine Ev.run (c' := (536, [.ref 0, .ref 1, .ref 27, .ref 37, .int (I j1), u5, u6], [.ref 37, .int (E.2 j4), .int (E.2 j3), .int (E.2 j2), .ref 1], hp E w)) hM_153 1 rfl ?_
  rw [← a1] at h1
  rw [← a2] at h1
  rw [← a3] at h1
  refine Ev.callR hd hM_153 rfl (y := 145) (as := [.ref 1, .int (E.2 j2), .int (E.2 j3), .int (E.2 j4), .ref 37]) (rest := []) rfl (Nat.le_of_ble_eq_true rfl) h1 ?_
  refine Ev.run (c' := (547, [.ref 0, .ref 1, .ref 27, .ref 37, .int (I j1), .int v1, u6], [.int ((I j1) + (1 : Int32)), .ref 0, .ref 27], hp E w1)) hM_153 6 rfl ?_
  rw [g5]
  refine Ev.iald hM_153 rfl (a := 0) rfl (inb_I b5 bE) ?_
  rw [I_clamp (Nat.lt_of_lt_of_le b5 bE)]
  refine Ev.run (c' := (553, [.ref 0, .ref 1, .ref 27, .ref 37, .int (I j1), .int v1, u6], [.int ((I j1) + (2 : Int32)), .ref 0, .int (E.2 j5), .ref 27], hp E w1)) hM_153 4 rfl ?_
  rw [g6]
  refine Ev.iald hM_153 rfl (a := 0) rfl (inb_I b6 bE) ?_
  rw [I_clamp (Nat.lt_of_lt_of_le b6 bE)]
  refine Ev.run (c' := (559, [.ref 0, .ref 1, .ref 27, .ref 37, .int (I j1), .int v1, u6], [.int ((I j1) + (3 : Int32)), .ref 0, .int (E.2 j6), .int (E.2 j5), .ref 27], hp E w1)) hM_153 4 rfl ?_
  rw [g7]
  refine Ev.iald hM_153 rfl (a := 0) rfl (inb_I b7 bE) ?_
  rw [I_clamp (Nat.lt_of_lt_of_le b7 bE)]
  refine Ev.run (c' := (560, [.ref 0, .ref 1, .ref 27, .ref 37, .int (I j1), .int v1, u6], [.int (E.2 j7), .int (E.2 j6), .int (E.2 j5), .ref 27], hp E w1)) hM_153 0 rfl ?_
  rw [← a4] at h2
  rw [← a5] at h2
  rw [← a6] at h2
  refine Ev.callR hd hM_153 rfl (y := 120) (as := [.ref 27, .int (E.2 j5), .int (E.2 j6), .int (E.2 j7)]) (rest := []) rfl (Nat.le_of_ble_eq_true rfl) h2 ?_
  refine Ev.run (c' := (566, [.ref 0, .ref 1, .ref 27, .ref 37, .int (I j1), .int v1, .int v2], [.ref 27], hp E w2)) hM_153 2 rfl ?_
  refine Ev.callR hd hM_153 rfl (y := 96) (as := [.ref 27]) (rest := []) rfl (Nat.le_of_ble_eq_true rfl) (Ev.run (c' := (4, [.ref 27], [.int (gF w2 8)], hp E w2)) hM_96 2 rfl (Ev.fin hM_96 rfl rfl)) ?_
  refine Ev.run (c' := (571, [.ref 0, .ref 1, .ref 27, .ref 37, .int (I j1), .int v1, .int v2], [.int v1, .int (gF w2 8)], hp E w2)) hM_153 1 rfl ?_
  refine Ev.icT hM_153 rfl (cI_eqT c3) ?_
  refine Ev.run (c' := (578, [.ref 0, .ref 1, .ref 27, .ref 37, .int (I j1), .int v1, .int v2], [.int v1], hp E w2)) hM_153 1 rfl ?_
  refine Ev.ifF hM_153 rfl (cI_neF c4) ?_
  refine Ev.run (c' := (588, [.ref 0, .ref 1, .ref 27, .ref 37, .int (I j1), .int v1, .int v2], [.int (lg_cmp (gO w2) ((v2).toInt64))], hp E w2)) hM_153 6 rfl ?_
  refine Ev.ifT hM_153 rfl (cI_eqT c5) ?_
  refine Ev.run (c' := (23, [.ref 0, .ref 1, .ref 27, .ref 37, .int ((I j1) + (5 : Int32)), .int v1, .int v2], [], hp E w2)) hM_153 3 rfl ?_
  exact e
theorem p153_23_w {E : Nat × (Nat → Int32)} {w : Wd} {d : Nat} {x4 : Int32} {u5 u6 : Value} {o : Ou} {j1 : Nat} {j2 : Nat} {j3 : Nat} {j4 : Nat} {z1 : Int32} {z2 : Int32} {z3 : Int32} {w1 : Wd} {v1 : Int32} {j5 : Nat} {j6 : Nat} {j7 : Nat} {z4 : Int32} {z5 : Int32} {z6 : Int32} {w2 : Wd} {v2 : Int32} {y4 : Int32} (hd : 1 ≤ d) (c1 : ¬ ((I E.1) - (5 : Int32)) < x4) (g1 : x4 = I j1) (b1 : j1 < E.1) (bE : E.1 ≤ 2147483648) (c2 : ((E.2 j1) &&& (31 : Int32)) = (7 : Int32)) (g2 : ((I j1) + (1 : Int32)) = I j2) (b2 : j2 < E.1) (g3 : ((I j1) + (2 : Int32)) = I j3) (b3 : j3 < E.1) (g4 : ((I j1) + (3 : Int32)) = I j4) (b4 : j4 < E.1) (a1 : (E.2 j2) = z1) (a2 : (E.2 j3) = z2) (a3 : (E.2 j4) = z3) (h1 : Ev (d - 1) 145 (ent0 145 [.ref 1, .int z1, .int z2, .int z3, .ref 37] (hp E w)) (.inl (some (.int v1)), hp E w1)) (g5 : ((I j1) + (1 : Int32)) = I j5) (b5 : j5 < E.1) (g6 : ((I j1) + (2 : Int32)) = I j6) (b6 : j6 < E.1) (g7 : ((I j1) + (3 : Int32)) = I j7) (b7 : j7 < E.1) (a4 : (E.2 j5) = z4) (a5 : (E.2 j6) = z5) (a6 : (E.2 j7) = z6) (h2 : Ev (d - 1) 120 (ent0 120 [.ref 27, .int z4, .int z5, .int z6] (hp E w1)) (.inl (some (.int v2)), hp E w2)) (c3 : (gF w2 8) = v1) (c4 : ¬ v1 = 0) (q4 : ((I j1) + (5 : Int32)) = y4) (e : Ev d 153 (23, [.ref 0, .ref 1, .ref 27, .ref 37, .int y4, .int v1, .int v2], [], hp E w2) o) : Ev d 153 (23, [.ref 0, .ref 1, .ref 27, .ref 37, .int x4, u5, u6], [], hp E w) o := by
  subst q4
  refine Ev.run (c' := (29, [.ref 0, .ref 1, .ref 27, .ref 37, .int x4, u5, u6], [.int ((I E.1) - (5 : Int32)), .int x4], hp E w)) hM_153 5 rfl ?_
  refine Ev.icF hM_153 rfl (cI_gtF c1) ?_
  refine Ev.run (c' := (35, [.ref 0, .ref 1, .ref 27, .ref 37, .int x4, u5, u6], [.int x4, .ref 0], hp E w)) hM_153 2 rfl ?_
  subst g1
  refine Ev.iald hM_153 rfl (a := 0) rfl (inb_I b1 bE) ?_
  rw [I_clamp (Nat.lt_of_lt_of_le b1 bE)]
  refine Ev.run (c' := (39, [.ref 0, .ref 1, .ref 27, .ref 37, .int (I j1), u5, u6], [.int ((E.2 j1) &&& (31 : Int32))], hp E w)) hM_153 2 rfl ?_
  rw [c2]
  refine Ev.run (c' := (522, [.ref 0, .ref 1, .ref 27, .ref 37, .int (I j1), u5, u6], [.int ((I j1) + (1 : Int32)), .ref 0, .ref 1], hp E w)) hM_153 6 rfl ?_
  rw [g2]
  refine Ev.iald hM_153 rfl (a := 0) rfl (inb_I b2 bE) ?_
  rw [I_clamp (Nat.lt_of_lt_of_le b2 bE)]
  refine Ev.run (c' := (528, [.ref 0, .ref 1, .ref 27, .ref 37, .int (I j1), u5, u6], [.int ((I j1) + (2 : Int32)), .ref 0, .int (E.2 j2), .ref 1], hp E w)) hM_153 4 rfl ?_
  rw [g3]
  refine Ev.iald hM_153 rfl (a := 0) rfl (inb_I b3 bE) ?_
  rw [I_clamp (Nat.lt_of_lt_of_le b3 bE)]
  refine Ev.run (c' := (534, [.ref 0, .ref 1, .ref 27, .ref 37, .int (I j1), u5, u6], [.int ((I j1) + (3 : Int32)), .ref 0, .int (E.2 j3), .int (E.2 j2), .ref 1], hp E w)) hM_153 4 rfl ?_
  rw [g4]
  refine Ev.iald hM_153 rfl (a := 0) rfl (inb_I b4 bE) ?_
  rw [I_clamp (Nat.lt_of_lt_of_le b4 bE)]
  refine Ev.run (c' := (536, [.ref 0, .ref 1, .ref 27, .ref 37, .int (I j1), u5, u6], [.ref 37, .int (E.2 j4), .int (E.2 j3), .int (E.2 j2), .ref 1], hp E w)) hM_153 1 rfl ?_
  rw [← a1] at h1
  rw [← a2] at h1
  rw [← a3] at h1
  refine Ev.callR hd hM_153 rfl (y := 145) (as := [.ref 1, .int (E.2 j2), .int (E.2 j3), .int (E.2 j4), .ref 37]) (rest := []) rfl (Nat.le_of_ble_eq_true rfl) h1 ?_
  refine Ev.run (c' := (547, [.ref 0, .ref 1, .ref 27, .ref 37, .int (I j1), .int v1, u6], [.int ((I j1) + (1 : Int32)), .ref 0, .ref 27], hp E w1)) hM_153 6 rfl ?_
  rw [g5]
  refine Ev.iald hM_153 rfl (a := 0) rfl (inb_I b5 bE) ?_
  rw [I_clamp (Nat.lt_of_lt_of_le b5 bE)]
  refine Ev.run (c' := (553, [.ref 0, .ref 1, .ref 27, .ref 37, .int (I j1), .int v1, u6], [.int ((I j1) + (2 : Int32)), .ref 0, .int (E.2 j5), .ref 27], hp E w1)) hM_153 4 rfl ?_
  rw [g6]
  refine Ev.iald hM_153 rfl (a := 0) rfl (inb_I b6 bE) ?_
  rw [I_clamp (Nat.lt_of_lt_of_le b6 bE)]
  refine Ev.run (c' := (559, [.ref 0, .ref 1, .ref 27, .ref 37, .int (I j1), .int v1, u6], [.int ((I j1) + (3 : Int32)), .ref 0, .int (E.2 j6), .int (E.2 j5), .ref 27], hp E w1)) hM_153 4 rfl ?_
  rw [g7]
  refine Ev.iald hM_153 rfl (a := 0) rfl (inb_I b7 bE) ?_
  rw [I_clamp (Nat.lt_of_lt_of_le b7 bE)]
  refine Ev.run (c' := (560, [.ref 0, .ref 1, .ref 27, .ref 37, .int (I j1), .int v1, u6], [.int (E.2 j7), .int (E.2 j6), .int (E.2 j5), .ref 27], hp E w1)) hM_153 0 rfl ?_
  rw [← a4] at h2
  rw [← a5] at h2
  rw [← a6] at h2
  refine Ev.callR hd hM_153 rfl (y := 120) (as := [.ref 27, .int (E.2 j5), .int (E.2 j6), .int (E.2 j7)]) (rest := []) rfl (Nat.le_of_ble_eq_true rfl) h2 ?_
  refine Ev.run (c' := (566, [.ref 0, .ref 1, .ref 27, .ref 37, .int (I j1), .int v1, .int v2], [.ref 27], hp E w2)) hM_153 2 rfl ?_
  refine Ev.callR hd hM_153 rfl (y := 96) (as := [.ref 27]) (rest := []) rfl (Nat.le_of_ble_eq_true rfl) (Ev.run (c' := (4, [.ref 27], [.int (gF w2 8)], hp E w2)) hM_96 2 rfl (Ev.fin hM_96 rfl rfl)) ?_
  refine Ev.run (c' := (571, [.ref 0, .ref 1, .ref 27, .ref 37, .int (I j1), .int v1, .int v2], [.int v1, .int (gF w2 8)], hp E w2)) hM_153 1 rfl ?_
  refine Ev.icT hM_153 rfl (cI_eqT c3) ?_
  refine Ev.run (c' := (578, [.ref 0, .ref 1, .ref 27, .ref 37, .int (I j1), .int v1, .int v2], [.int v1], hp E w2)) hM_153 1 rfl ?_
  refine Ev.ifT hM_153 rfl (cI_neT c4) ?_
  refine Ev.run (c' := (23, [.ref 0, .ref 1, .ref 27, .ref 37, .int ((I j1) + (5 : Int32)), .int v1, .int v2], [], hp E w2)) hM_153 3 rfl ?_
  exact e
theorem p153_23_x {E : Nat × (Nat → Int32)} {w : Wd} {d : Nat} {x4 : Int32} {u5 u6 : Value} {o : Ou} {j1 : Nat} {j2 : Nat} {z1 : Int32} {w1 : Wd} {v1 : Int32} {j3 : Nat} {z2 : Int32} {w2 : Wd} {v2 : Int32} {y4 : Int32} (hd : 1 ≤ d) (c1 : ¬ ((I E.1) - (5 : Int32)) < x4) (g1 : x4 = I j1) (b1 : j1 < E.1) (bE : E.1 ≤ 2147483648) (c2 : ((E.2 j1) &&& (31 : Int32)) = (6 : Int32)) (g2 : ((I j1) + (1 : Int32)) = I j2) (b2 : j2 < E.1) (a1 : (E.2 j2) = z1) (h1 : Ev (d - 1) 144 (ent0 144 [.ref 1, .int z1, .ref 37] (hp E w)) (.inl (some (.int v1)), hp E w1)) (g3 : ((I j1) + (1 : Int32)) = I j3) (b3 : j3 < E.1) (a2 : (E.2 j3) = z2) (h2 : Ev (d - 1) 112 (ent0 112 [.ref 27, .int z2] (hp E w1)) (.inl (some (.int v2)), hp E w2)) (c3 : (gF w2 8) = v1) (c4 : v1 = 0) (c5 : (lg_cmp (gO w2) ((v2).toInt64)) = 0) (q4 : ((I j1) + (5 : Int32)) = y4) (e : Ev d 153 (23, [.ref 0, .ref 1, .ref 27, .ref 37, .int y4, .int v1, .int v2], [], hp E w2) o) : Ev d 153 (23, [.ref 0, .ref 1, .ref 27, .ref 37, .int x4, u5, u6], [], hp E w) o := by
  subst q4
  refine Ev.run (c' := (29, [.ref 0, .ref 1, .ref 27, .ref 37, .int x4, u5, u6], [.int ((I E.1) - (5 : Int32)), .int x4], hp E w)) hM_153 5 rfl ?_
  refine Ev.icF hM_153 rfl (cI_gtF c1) ?_
  refine Ev.run (c' := (35, [.ref 0, .ref 1, .ref 27, .ref 37, .int x4, u5, u6], [.int x4, .ref 0], hp E w)) hM_153 2 rfl ?_
  subst g1
  refine Ev.iald hM_153 rfl (a := 0) rfl (inb_I b1 bE) ?_
  rw [I_clamp (Nat.lt_of_lt_of_le b1 bE)]
  refine Ev.run (c' := (39, [.ref 0, .ref 1, .ref 27, .ref 37, .int (I j1), u5, u6], [.int ((E.2 j1) &&& (31 : Int32))], hp E w)) hM_153 2 rfl ?_
  rw [c2]
  refine Ev.run (c' := (466, [.ref 0, .ref 1, .ref 27, .ref 37, .int (I j1), u5, u6], [.int ((I j1) + (1 : Int32)), .ref 0, .ref 1], hp E w)) hM_153 6 rfl ?_
  rw [g2]
  refine Ev.iald hM_153 rfl (a := 0) rfl (inb_I b2 bE) ?_
  rw [I_clamp (Nat.lt_of_lt_of_le b2 bE)]
  refine Ev.run (c' := (468, [.ref 0, .ref 1, .ref 27, .ref 37, .int (I j1), u5, u6], [.ref 37, .int (E.2 j2), .ref 1], hp E w)) hM_153 1 rfl ?_
  rw [← a1] at h1
  refine Ev.callR hd hM_153 rfl (y := 144) (as := [.ref 1, .int (E.2 j2), .ref 37]) (rest := []) rfl (Nat.le_of_ble_eq_true rfl) h1 ?_
  refine Ev.run (c' := (479, [.ref 0, .ref 1, .ref 27, .ref 37, .int (I j1), .int v1, u6], [.int ((I j1) + (1 : Int32)), .ref 0, .ref 27], hp E w1)) hM_153 6 rfl ?_
  rw [g3]
  refine Ev.iald hM_153 rfl (a := 0) rfl (inb_I b3 bE) ?_
  rw [I_clamp (Nat.lt_of_lt_of_le b3 bE)]
  refine Ev.run (c' := (480, [.ref 0, .ref 1, .ref 27, .ref 37, .int (I j1), .int v1, u6], [.int (E.2 j3), .ref 27], hp E w1)) hM_153 0 rfl ?_
  rw [← a2] at h2
  refine Ev.callR hd hM_153 rfl (y := 112) (as := [.ref 27, .int (E.2 j3)]) (rest := []) rfl (Nat.le_of_ble_eq_true rfl) h2 ?_
  refine Ev.run (c' := (486, [.ref 0, .ref 1, .ref 27, .ref 37, .int (I j1), .int v1, .int v2], [.ref 27], hp E w2)) hM_153 2 rfl ?_
  refine Ev.callR hd hM_153 rfl (y := 96) (as := [.ref 27]) (rest := []) rfl (Nat.le_of_ble_eq_true rfl) (Ev.run (c' := (4, [.ref 27], [.int (gF w2 8)], hp E w2)) hM_96 2 rfl (Ev.fin hM_96 rfl rfl)) ?_
  refine Ev.run (c' := (491, [.ref 0, .ref 1, .ref 27, .ref 37, .int (I j1), .int v1, .int v2], [.int v1, .int (gF w2 8)], hp E w2)) hM_153 1 rfl ?_
  refine Ev.icT hM_153 rfl (cI_eqT c3) ?_
  refine Ev.run (c' := (498, [.ref 0, .ref 1, .ref 27, .ref 37, .int (I j1), .int v1, .int v2], [.int v1], hp E w2)) hM_153 1 rfl ?_
  refine Ev.ifF hM_153 rfl (cI_neF c4) ?_
  refine Ev.run (c' := (508, [.ref 0, .ref 1, .ref 27, .ref 37, .int (I j1), .int v1, .int v2], [.int (lg_cmp (gO w2) ((v2).toInt64))], hp E w2)) hM_153 6 rfl ?_
  refine Ev.ifT hM_153 rfl (cI_eqT c5) ?_
  refine Ev.run (c' := (23, [.ref 0, .ref 1, .ref 27, .ref 37, .int ((I j1) + (5 : Int32)), .int v1, .int v2], [], hp E w2)) hM_153 3 rfl ?_
  exact e
theorem p153_23_y {E : Nat × (Nat → Int32)} {w : Wd} {d : Nat} {x4 : Int32} {u5 u6 : Value} {o : Ou} {j1 : Nat} {j2 : Nat} {z1 : Int32} {w1 : Wd} {v1 : Int32} {j3 : Nat} {z2 : Int32} {w2 : Wd} {v2 : Int32} {y4 : Int32} (hd : 1 ≤ d) (c1 : ¬ ((I E.1) - (5 : Int32)) < x4) (g1 : x4 = I j1) (b1 : j1 < E.1) (bE : E.1 ≤ 2147483648) (c2 : ((E.2 j1) &&& (31 : Int32)) = (6 : Int32)) (g2 : ((I j1) + (1 : Int32)) = I j2) (b2 : j2 < E.1) (a1 : (E.2 j2) = z1) (h1 : Ev (d - 1) 144 (ent0 144 [.ref 1, .int z1, .ref 37] (hp E w)) (.inl (some (.int v1)), hp E w1)) (g3 : ((I j1) + (1 : Int32)) = I j3) (b3 : j3 < E.1) (a2 : (E.2 j3) = z2) (h2 : Ev (d - 1) 112 (ent0 112 [.ref 27, .int z2] (hp E w1)) (.inl (some (.int v2)), hp E w2)) (c3 : (gF w2 8) = v1) (c4 : ¬ v1 = 0) (q4 : ((I j1) + (5 : Int32)) = y4) (e : Ev d 153 (23, [.ref 0, .ref 1, .ref 27, .ref 37, .int y4, .int v1, .int v2], [], hp E w2) o) : Ev d 153 (23, [.ref 0, .ref 1, .ref 27, .ref 37, .int x4, u5, u6], [], hp E w) o := by
  subst q4
  refine Ev.run (c' := (29, [.ref 0, .ref 1, .ref 27, .ref 37, .int x4, u5, u6], [.int ((I E.1) - (5 : Int32)), .int x4], hp E w)) hM_153 5 rfl ?_
  refine Ev.icF hM_153 rfl (cI_gtF c1) ?_
  refine Ev.run (c' := (35, [.ref 0, .ref 1, .ref 27, .ref 37, .int x4, u5, u6], [.int x4, .ref 0], hp E w)) hM_153 2 rfl ?_
  subst g1
  refine Ev.iald hM_153 rfl (a := 0) rfl (inb_I b1 bE) ?_
  rw [I_clamp (Nat.lt_of_lt_of_le b1 bE)]
  refine Ev.run (c' := (39, [.ref 0, .ref 1, .ref 27, .ref 37, .int (I j1), u5, u6], [.int ((E.2 j1) &&& (31 : Int32))], hp E w)) hM_153 2 rfl ?_
  rw [c2]
  refine Ev.run (c' := (466, [.ref 0, .ref 1, .ref 27, .ref 37, .int (I j1), u5, u6], [.int ((I j1) + (1 : Int32)), .ref 0, .ref 1], hp E w)) hM_153 6 rfl ?_
  rw [g2]
  refine Ev.iald hM_153 rfl (a := 0) rfl (inb_I b2 bE) ?_
  rw [I_clamp (Nat.lt_of_lt_of_le b2 bE)]
  refine Ev.run (c' := (468, [.ref 0, .ref 1, .ref 27, .ref 37, .int (I j1), u5, u6], [.ref 37, .int (E.2 j2), .ref 1], hp E w)) hM_153 1 rfl ?_
  rw [← a1] at h1
  refine Ev.callR hd hM_153 rfl (y := 144) (as := [.ref 1, .int (E.2 j2), .ref 37]) (rest := []) rfl (Nat.le_of_ble_eq_true rfl) h1 ?_
  refine Ev.run (c' := (479, [.ref 0, .ref 1, .ref 27, .ref 37, .int (I j1), .int v1, u6], [.int ((I j1) + (1 : Int32)), .ref 0, .ref 27], hp E w1)) hM_153 6 rfl ?_
  rw [g3]
  refine Ev.iald hM_153 rfl (a := 0) rfl (inb_I b3 bE) ?_
  rw [I_clamp (Nat.lt_of_lt_of_le b3 bE)]
  refine Ev.run (c' := (480, [.ref 0, .ref 1, .ref 27, .ref 37, .int (I j1), .int v1, u6], [.int (E.2 j3), .ref 27], hp E w1)) hM_153 0 rfl ?_
  rw [← a2] at h2
  refine Ev.callR hd hM_153 rfl (y := 112) (as := [.ref 27, .int (E.2 j3)]) (rest := []) rfl (Nat.le_of_ble_eq_true rfl) h2 ?_
  refine Ev.run (c' := (486, [.ref 0, .ref 1, .ref 27, .ref 37, .int (I j1), .int v1, .int v2], [.ref 27], hp E w2)) hM_153 2 rfl ?_
  refine Ev.callR hd hM_153 rfl (y := 96) (as := [.ref 27]) (rest := []) rfl (Nat.le_of_ble_eq_true rfl) (Ev.run (c' := (4, [.ref 27], [.int (gF w2 8)], hp E w2)) hM_96 2 rfl (Ev.fin hM_96 rfl rfl)) ?_
  refine Ev.run (c' := (491, [.ref 0, .ref 1, .ref 27, .ref 37, .int (I j1), .int v1, .int v2], [.int v1, .int (gF w2 8)], hp E w2)) hM_153 1 rfl ?_
  refine Ev.icT hM_153 rfl (cI_eqT c3) ?_
  refine Ev.run (c' := (498, [.ref 0, .ref 1, .ref 27, .ref 37, .int (I j1), .int v1, .int v2], [.int v1], hp E w2)) hM_153 1 rfl ?_
  refine Ev.ifT hM_153 rfl (cI_neT c4) ?_
  refine Ev.run (c' := (23, [.ref 0, .ref 1, .ref 27, .ref 37, .int ((I j1) + (5 : Int32)), .int v1, .int v2], [], hp E w2)) hM_153 3 rfl ?_
  exact e
theorem p153_23_z {E : Nat × (Nat → Int32)} {w : Wd} {d : Nat} {x4 : Int32} {u5 u6 : Value} {o : Ou} {j1 : Nat} {w1 : Wd} {v1 : Int32} {w2 : Wd} {v2 : Int32} {y4 : Int32} (hd : 1 ≤ d) (c1 : ¬ ((I E.1) - (5 : Int32)) < x4) (g1 : x4 = I j1) (b1 : j1 < E.1) (bE : E.1 ≤ 2147483648) (c2 : ((E.2 j1) &&& (31 : Int32)) = (5 : Int32)) (h1 : Ev (d - 1) 74 (ent0 74 [.ref 1] (hp E w)) (.inl (some (.int v1)), hp E w1)) (h2 : Ev (d - 1) 111 (ent0 111 [.ref 27] (hp E w1)) (.inl (some (.int v2)), hp E w2)) (c3 : v1 = v2) (q4 : ((I j1) + (5 : Int32)) = y4) (e : Ev d 153 (23, [.ref 0, .ref 1, .ref 27, .ref 37, .int y4, u5, u6], [], hp E w2) o) : Ev d 153 (23, [.ref 0, .ref 1, .ref 27, .ref 37, .int x4, u5, u6], [], hp E w) o := by
  subst q4
  refine Ev.run (c' := (29, [.ref 0, .ref 1, .ref 27, .ref 37, .int x4, u5, u6], [.int ((I E.1) - (5 : Int32)), .int x4], hp E w)) hM_153 5 rfl ?_
  refine Ev.icF hM_153 rfl (cI_gtF c1) ?_
  refine Ev.run (c' := (35, [.ref 0, .ref 1, .ref 27, .ref 37, .int x4, u5, u6], [.int x4, .ref 0], hp E w)) hM_153 2 rfl ?_
  subst g1
  refine Ev.iald hM_153 rfl (a := 0) rfl (inb_I b1 bE) ?_
  rw [I_clamp (Nat.lt_of_lt_of_le b1 bE)]
  refine Ev.run (c' := (39, [.ref 0, .ref 1, .ref 27, .ref 37, .int (I j1), u5, u6], [.int ((E.2 j1) &&& (31 : Int32))], hp E w)) hM_153 2 rfl ?_
  rw [c2]
  refine Ev.run (c' := (448, [.ref 0, .ref 1, .ref 27, .ref 37, .int (I j1), u5, u6], [.ref 1], hp E w)) hM_153 2 rfl ?_
  refine Ev.callR hd hM_153 rfl (y := 74) (as := [.ref 1]) (rest := []) rfl (Nat.le_of_ble_eq_true rfl) h1 ?_
  refine Ev.run (c' := (452, [.ref 0, .ref 1, .ref 27, .ref 37, .int (I j1), u5, u6], [.ref 27, .int v1], hp E w1)) hM_153 1 rfl ?_
  refine Ev.callR hd hM_153 rfl (y := 111) (as := [.ref 27]) (rest := [.int v1]) rfl (Nat.le_of_ble_eq_true rfl) h2 ?_
  refine Ev.run (c' := (455, [.ref 0, .ref 1, .ref 27, .ref 37, .int (I j1), u5, u6], [.int v2, .int v1], hp E w2)) hM_153 0 rfl ?_
  refine Ev.icT hM_153 rfl (cI_eqT c3) ?_
  refine Ev.run (c' := (23, [.ref 0, .ref 1, .ref 27, .ref 37, .int ((I j1) + (5 : Int32)), u5, u6], [], hp E w2)) hM_153 2 rfl ?_
  exact e
theorem p153_23_27 {E : Nat × (Nat → Int32)} {w : Wd} {d : Nat} {x4 : Int32} {u5 u6 : Value} {o : Ou} {j1 : Nat} {w1 : Wd} {v1 : Int32} {w2 : Wd} {v2 : Int32} {y4 : Int32} (hd : 1 ≤ d) (c1 : ¬ ((I E.1) - (5 : Int32)) < x4) (g1 : x4 = I j1) (b1 : j1 < E.1) (bE : E.1 ≤ 2147483648) (c2 : ((E.2 j1) &&& (31 : Int32)) = (4 : Int32)) (h1 : Ev (d - 1) 143 (ent0 143 [.ref 1, .ref 37] (hp E w)) (.inl (some (.int v1)), hp E w1)) (h2 : Ev (d - 1) 110 (ent0 110 [.ref 27] (hp E w1)) (.inl (some (.int v2)), hp E w2)) (c3 : (gF w2 8) = v1) (c4 : v1 = 0) (c5 : (lg_cmp (gO w2) ((v2).toInt64)) = 0) (q4 : ((I j1) + (5 : Int32)) = y4) (e : Ev d 153 (23, [.ref 0, .ref 1, .ref 27, .ref 37, .int y4, .int v1, .int v2], [], hp E w2) o) : Ev d 153 (23, [.ref 0, .ref 1, .ref 27, .ref 37, .int x4, u5, u6], [], hp E w) o := by
  subst q4
  refine Ev.run (c' := (29, [.ref 0, .ref 1, .ref 27, .ref 37, .int x4, u5, u6], [.int ((I E.1) - (5 : Int32)), .int x4], hp E w)) hM_153 5 rfl ?_
  refine Ev.icF hM_153 rfl (cI_gtF c1) ?_
  refine Ev.run (c' := (35, [.ref 0, .ref 1, .ref 27, .ref 37, .int x4, u5, u6], [.int x4, .ref 0], hp E w)) hM_153 2 rfl ?_
  subst g1
  refine Ev.iald hM_153 rfl (a := 0) rfl (inb_I b1 bE) ?_
  rw [I_clamp (Nat.lt_of_lt_of_le b1 bE)]
  refine Ev.run (c' := (39, [.ref 0, .ref 1, .ref 27, .ref 37, .int (I j1), u5, u6], [.int ((E.2 j1) &&& (31 : Int32))], hp E w)) hM_153 2 rfl ?_
  rw [c2]
  refine Ev.run (c' := (405, [.ref 0, .ref 1, .ref 27, .ref 37, .int (I j1), u5, u6], [.ref 37, .ref 1], hp E w)) hM_153 3 rfl ?_
  refine Ev.callR hd hM_153 rfl (y := 143) (as := [.ref 1, .ref 37]) (rest := []) rfl (Nat.le_of_ble_eq_true rfl) h1 ?_
  refine Ev.run (c' := (411, [.ref 0, .ref 1, .ref 27, .ref 37, .int (I j1), .int v1, u6], [.ref 27], hp E w1)) hM_153 2 rfl ?_
  refine Ev.callR hd hM_153 rfl (y := 110) (as := [.ref 27]) (rest := []) rfl (Nat.le_of_ble_eq_true rfl) h2 ?_
  refine Ev.run (c' := (417, [.ref 0, .ref 1, .ref 27, .ref 37, .int (I j1), .int v1, .int v2], [.ref 27], hp E w2)) hM_153 2 rfl ?_
  refine Ev.callR hd hM_153 rfl (y := 96) (as := [.ref 27]) (rest := []) rfl (Nat.le_of_ble_eq_true rfl) (Ev.run (c' := (4, [.ref 27], [.int (gF w2 8)], hp E w2)) hM_96 2 rfl (Ev.fin hM_96 rfl rfl)) ?_
  refine Ev.run (c' := (422, [.ref 0, .ref 1, .ref 27, .ref 37, .int (I j1), .int v1, .int v2], [.int v1, .int (gF w2 8)], hp E w2)) hM_153 1 rfl ?_
  refine Ev.icT hM_153 rfl (cI_eqT c3) ?_
  refine Ev.run (c' := (429, [.ref 0, .ref 1, .ref 27, .ref 37, .int (I j1), .int v1, .int v2], [.int v1], hp E w2)) hM_153 1 rfl ?_
  refine Ev.ifF hM_153 rfl (cI_neF c4) ?_
  refine Ev.run (c' := (439, [.ref 0, .ref 1, .ref 27, .ref 37, .int (I j1), .int v1, .int v2], [.int (lg_cmp (gO w2) ((v2).toInt64))], hp E w2)) hM_153 6 rfl ?_
  refine Ev.ifT hM_153 rfl (cI_eqT c5) ?_
  refine Ev.run (c' := (23, [.ref 0, .ref 1, .ref 27, .ref 37, .int ((I j1) + (5 : Int32)), .int v1, .int v2], [], hp E w2)) hM_153 3 rfl ?_
  exact e
theorem p153_23_28 {E : Nat × (Nat → Int32)} {w : Wd} {d : Nat} {x4 : Int32} {u5 u6 : Value} {o : Ou} {j1 : Nat} {w1 : Wd} {v1 : Int32} {w2 : Wd} {v2 : Int32} {y4 : Int32} (hd : 1 ≤ d) (c1 : ¬ ((I E.1) - (5 : Int32)) < x4) (g1 : x4 = I j1) (b1 : j1 < E.1) (bE : E.1 ≤ 2147483648) (c2 : ((E.2 j1) &&& (31 : Int32)) = (4 : Int32)) (h1 : Ev (d - 1) 143 (ent0 143 [.ref 1, .ref 37] (hp E w)) (.inl (some (.int v1)), hp E w1)) (h2 : Ev (d - 1) 110 (ent0 110 [.ref 27] (hp E w1)) (.inl (some (.int v2)), hp E w2)) (c3 : (gF w2 8) = v1) (c4 : ¬ v1 = 0) (q4 : ((I j1) + (5 : Int32)) = y4) (e : Ev d 153 (23, [.ref 0, .ref 1, .ref 27, .ref 37, .int y4, .int v1, .int v2], [], hp E w2) o) : Ev d 153 (23, [.ref 0, .ref 1, .ref 27, .ref 37, .int x4, u5, u6], [], hp E w) o := by
  subst q4
  refine Ev.run (c' := (29, [.ref 0, .ref 1, .ref 27, .ref 37, .int x4, u5, u6], [.int ((I E.1) - (5 : Int32)), .int x4], hp E w)) hM_153 5 rfl ?_
  refine Ev.icF hM_153 rfl (cI_gtF c1) ?_
  refine Ev.run (c' := (35, [.ref 0, .ref 1, .ref 27, .ref 37, .int x4, u5, u6], [.int x4, .ref 0], hp E w)) hM_153 2 rfl ?_
  subst g1
  refine Ev.iald hM_153 rfl (a := 0) rfl (inb_I b1 bE) ?_
  rw [I_clamp (Nat.lt_of_lt_of_le b1 bE)]
  refine Ev.run (c' := (39, [.ref 0, .ref 1, .ref 27, .ref 37, .int (I j1), u5, u6], [.int ((E.2 j1) &&& (31 : Int32))], hp E w)) hM_153 2 rfl ?_
  rw [c2]
  refine Ev.run (c' := (405, [.ref 0, .ref 1, .ref 27, .ref 37, .int (I j1), u5, u6], [.ref 37, .ref 1], hp E w)) hM_153 3 rfl ?_
  refine Ev.callR hd hM_153 rfl (y := 143) (as := [.ref 1, .ref 37]) (rest := []) rfl (Nat.le_of_ble_eq_true rfl) h1 ?_
  refine Ev.run (c' := (411, [.ref 0, .ref 1, .ref 27, .ref 37, .int (I j1), .int v1, u6], [.ref 27], hp E w1)) hM_153 2 rfl ?_
  refine Ev.callR hd hM_153 rfl (y := 110) (as := [.ref 27]) (rest := []) rfl (Nat.le_of_ble_eq_true rfl) h2 ?_
  refine Ev.run (c' := (417, [.ref 0, .ref 1, .ref 27, .ref 37, .int (I j1), .int v1, .int v2], [.ref 27], hp E w2)) hM_153 2 rfl ?_
  refine Ev.callR hd hM_153 rfl (y := 96) (as := [.ref 27]) (rest := []) rfl (Nat.le_of_ble_eq_true rfl) (Ev.run (c' := (4, [.ref 27], [.int (gF w2 8)], hp E w2)) hM_96 2 rfl (Ev.fin hM_96 rfl rfl)) ?_
  refine Ev.run (c' := (422, [.ref 0, .ref 1, .ref 27, .ref 37, .int (I j1), .int v1, .int v2], [.int v1, .int (gF w2 8)], hp E w2)) hM_153 1 rfl ?_
  refine Ev.icT hM_153 rfl (cI_eqT c3) ?_
  refine Ev.run (c' := (429, [.ref 0, .ref 1, .ref 27, .ref 37, .int (I j1), .int v1, .int v2], [.int v1], hp E w2)) hM_153 1 rfl ?_
  refine Ev.ifT hM_153 rfl (cI_neT c4) ?_
  refine Ev.run (c' := (23, [.ref 0, .ref 1, .ref 27, .ref 37, .int ((I j1) + (5 : Int32)), .int v1, .int v2], [], hp E w2)) hM_153 3 rfl ?_
  exact e
theorem p153_23_29 {E : Nat × (Nat → Int32)} {w : Wd} {d : Nat} {x4 : Int32} {u5 u6 : Value} {o : Ou} {j1 : Nat} {j2 : Nat} {z1 : Int32} {w1 : Wd} {v1 : Int32} {j3 : Nat} {z2 : Int32} {w2 : Wd} {v2 : Int32} {y4 : Int32} (hd : 1 ≤ d) (c1 : ¬ ((I E.1) - (5 : Int32)) < x4) (g1 : x4 = I j1) (b1 : j1 < E.1) (bE : E.1 ≤ 2147483648) (c2 : ((E.2 j1) &&& (31 : Int32)) = (3 : Int32)) (g2 : ((I j1) + (1 : Int32)) = I j2) (b2 : j2 < E.1) (a1 : (E.2 j2) = z1) (h1 : Ev (d - 1) 142 (ent0 142 [.ref 1, .int z1, .ref 37] (hp E w)) (.inl (some (.int v1)), hp E w1)) (g3 : ((I j1) + (1 : Int32)) = I j3) (b3 : j3 < E.1) (a2 : (E.2 j3) = z2) (h2 : Ev (d - 1) 109 (ent0 109 [.ref 27, .int z2] (hp E w1)) (.inl (some (.int v2)), hp E w2)) (c3 : (gF w2 8) = v1) (c4 : v1 = 0) (c5 : (lg_cmp (gO w2) ((v2).toInt64)) = 0) (q4 : ((I j1) + (5 : Int32)) = y4) (e : Ev d 153 (23, [.ref 0, .ref 1, .ref 27, .ref 37, .int y4, .int v1, .int v2], [], hp E w2) o) : Ev d 153 (23, [.ref 0, .ref 1, .ref 27, .ref 37, .int x4, u5, u6], [], hp E w) o := by
  subst q4
  refine Ev.run (c' := (29, [.ref 0, .ref 1, .ref 27, .ref 37, .int x4, u5, u6], [.int ((I E.1) - (5 : Int32)), .int x4], hp E w)) hM_153 5 rfl ?_
  refine Ev.icF hM_153 rfl (cI_gtF c1) ?_
  refine Ev.run (c' := (35, [.ref 0, .ref 1, .ref 27, .ref 37, .int x4, u5, u6], [.int x4, .ref 0], hp E w)) hM_153 2 rfl ?_
  subst g1
  refine Ev.iald hM_153 rfl (a := 0) rfl (inb_I b1 bE) ?_
  rw [I_clamp (Nat.lt_of_lt_of_le b1 bE)]
  refine Ev.run (c' := (39, [.ref 0, .ref 1, .ref 27, .ref 37, .int (I j1), u5, u6], [.int ((E.2 j1) &&& (31 : Int32))], hp E w)) hM_153 2 rfl ?_
  rw [c2]
  refine Ev.run (c' := (353, [.ref 0, .ref 1, .ref 27, .ref 37, .int (I j1), u5, u6], [.int ((I j1) + (1 : Int32)), .ref 0, .ref 1], hp E w)) hM_153 6 rfl ?_
  rw [g2]
  refine Ev.iald hM_153 rfl (a := 0) rfl (inb_I b2 bE) ?_
  rw [I_clamp (Nat.lt_of_lt_of_le b2 bE)]
  refine Ev.run (c' := (355, [.ref 0, .ref 1, .ref 27, .ref 37, .int (I j1), u5, u6], [.ref 37, .int (E.2 j2), .ref 1], hp E w)) hM_153 1 rfl ?_
  rw [← a1] at h1
  refine Ev.callR hd hM_153 rfl (y := 142) (as := [.ref 1, .int (E.2 j2), .ref 37]) (rest := []) rfl (Nat.le_of_ble_eq_true rfl) h1 ?_
  refine Ev.run (c' := (366, [.ref 0, .ref 1, .ref 27, .ref 37, .int (I j1), .int v1, u6], [.int ((I j1) + (1 : Int32)), .ref 0, .ref 27], hp E w1)) hM_153 6 rfl ?_
  rw [g3]
  refine Ev.iald hM_153 rfl (a := 0) rfl (inb_I b3 bE) ?_
  rw [I_clamp (Nat.lt_of_lt_of_le b3 bE)]
  refine Ev.run (c' := (367, [.ref 0, .ref 1, .ref 27, .ref 37, .int (I j1), .int v1, u6], [.int (E.2 j3), .ref 27], hp E w1)) hM_153 0 rfl ?_
  rw [← a2] at h2
  refine Ev.callR hd hM_153 rfl (y := 109) (as := [.ref 27, .int (E.2 j3)]) (rest := []) rfl (Nat.le_of_ble_eq_true rfl) h2 ?_
  refine Ev.run (c' := (373, [.ref 0, .ref 1, .ref 27, .ref 37, .int (I j1), .int v1, .int v2], [.ref 27], hp E w2)) hM_153 2 rfl ?_
  refine Ev.callR hd hM_153 rfl (y := 96) (as := [.ref 27]) (rest := []) rfl (Nat.le_of_ble_eq_true rfl) (Ev.run (c' := (4, [.ref 27], [.int (gF w2 8)], hp E w2)) hM_96 2 rfl (Ev.fin hM_96 rfl rfl)) ?_
  refine Ev.run (c' := (378, [.ref 0, .ref 1, .ref 27, .ref 37, .int (I j1), .int v1, .int v2], [.int v1, .int (gF w2 8)], hp E w2)) hM_153 1 rfl ?_
  refine Ev.icT hM_153 rfl (cI_eqT c3) ?_
  refine Ev.run (c' := (385, [.ref 0, .ref 1, .ref 27, .ref 37, .int (I j1), .int v1, .int v2], [.int v1], hp E w2)) hM_153 1 rfl ?_
  refine Ev.ifF hM_153 rfl (cI_neF c4) ?_
  refine Ev.run (c' := (395, [.ref 0, .ref 1, .ref 27, .ref 37, .int (I j1), .int v1, .int v2], [.int (lg_cmp (gO w2) ((v2).toInt64))], hp E w2)) hM_153 6 rfl ?_
  refine Ev.ifT hM_153 rfl (cI_eqT c5) ?_
  refine Ev.run (c' := (23, [.ref 0, .ref 1, .ref 27, .ref 37, .int ((I j1) + (5 : Int32)), .int v1, .int v2], [], hp E w2)) hM_153 3 rfl ?_
  exact e
theorem p153_23_30 {E : Nat × (Nat → Int32)} {w : Wd} {d : Nat} {x4 : Int32} {u5 u6 : Value} {o : Ou} {j1 : Nat} {j2 : Nat} {z1 : Int32} {w1 : Wd} {v1 : Int32} {j3 : Nat} {z2 : Int32} {w2 : Wd} {v2 : Int32} {y4 : Int32} (hd : 1 ≤ d) (c1 : ¬ ((I E.1) - (5 : Int32)) < x4) (g1 : x4 = I j1) (b1 : j1 < E.1) (bE : E.1 ≤ 2147483648) (c2 : ((E.2 j1) &&& (31 : Int32)) = (3 : Int32)) (g2 : ((I j1) + (1 : Int32)) = I j2) (b2 : j2 < E.1) (a1 : (E.2 j2) = z1) (h1 : Ev (d - 1) 142 (ent0 142 [.ref 1, .int z1, .ref 37] (hp E w)) (.inl (some (.int v1)), hp E w1)) (g3 : ((I j1) + (1 : Int32)) = I j3) (b3 : j3 < E.1) (a2 : (E.2 j3) = z2) (h2 : Ev (d - 1) 109 (ent0 109 [.ref 27, .int z2] (hp E w1)) (.inl (some (.int v2)), hp E w2)) (c3 : (gF w2 8) = v1) (c4 : ¬ v1 = 0) (q4 : ((I j1) + (5 : Int32)) = y4) (e : Ev d 153 (23, [.ref 0, .ref 1, .ref 27, .ref 37, .int y4, .int v1, .int v2], [], hp E w2) o) : Ev d 153 (23, [.ref 0, .ref 1, .ref 27, .ref 37, .int x4, u5, u6], [], hp E w) o := by
  subst q4
  refine Ev.run (c' := (29, [.ref 0, .ref 1, .ref 27, .ref 37, .int x4, u5, u6], [.int ((I E.1) - (5 : Int32)), .int x4], hp E w)) hM_153 5 rfl ?_
  refine Ev.icF hM_153 rfl (cI_gtF c1) ?_
  refine Ev.run (c' := (35, [.ref 0, .ref 1, .ref 27, .ref 37, .int x4, u5, u6], [.int x4, .ref 0], hp E w)) hM_153 2 rfl ?_
  subst g1
  refine Ev.iald hM_153 rfl (a := 0) rfl (inb_I b1 bE) ?_
  rw [I_clamp (Nat.lt_of_lt_of_le b1 bE)]
  refine Ev.run (c' := (39, [.ref 0, .ref 1, .ref 27, .ref 37, .int (I j1), u5, u6], [.int ((E.2 j1) &&& (31 : Int32))], hp E w)) hM_153 2 rfl ?_
  rw [c2]
  refine Ev.run (c' := (353, [.ref 0, .ref 1, .ref 27, .ref 37, .int (I j1), u5, u6], [.int ((I j1) + (1 : Int32)), .ref 0, .ref 1], hp E w)) hM_153 6 rfl ?_
  rw [g2]
  refine Ev.iald hM_153 rfl (a := 0) rfl (inb_I b2 bE) ?_
  rw [I_clamp (Nat.lt_of_lt_of_le b2 bE)]
  refine Ev.run (c' := (355, [.ref 0, .ref 1, .ref 27, .ref 37, .int (I j1), u5, u6], [.ref 37, .int (E.2 j2), .ref 1], hp E w)) hM_153 1 rfl ?_
  rw [← a1] at h1
  refine Ev.callR hd hM_153 rfl (y := 142) (as := [.ref 1, .int (E.2 j2), .ref 37]) (rest := []) rfl (Nat.le_of_ble_eq_true rfl) h1 ?_
  refine Ev.run (c' := (366, [.ref 0, .ref 1, .ref 27, .ref 37, .int (I j1), .int v1, u6], [.int ((I j1) + (1 : Int32)), .ref 0, .ref 27], hp E w1)) hM_153 6 rfl ?_
  rw [g3]
  refine Ev.iald hM_153 rfl (a := 0) rfl (inb_I b3 bE) ?_
  rw [I_clamp (Nat.lt_of_lt_of_le b3 bE)]
  refine Ev.run (c' := (367, [.ref 0, .ref 1, .ref 27, .ref 37, .int (I j1), .int v1, u6], [.int (E.2 j3), .ref 27], hp E w1)) hM_153 0 rfl ?_
  rw [← a2] at h2
  refine Ev.callR hd hM_153 rfl (y := 109) (as := [.ref 27, .int (E.2 j3)]) (rest := []) rfl (Nat.le_of_ble_eq_true rfl) h2 ?_
  refine Ev.run (c' := (373, [.ref 0, .ref 1, .ref 27, .ref 37, .int (I j1), .int v1, .int v2], [.ref 27], hp E w2)) hM_153 2 rfl ?_
  refine Ev.callR hd hM_153 rfl (y := 96) (as := [.ref 27]) (rest := []) rfl (Nat.le_of_ble_eq_true rfl) (Ev.run (c' := (4, [.ref 27], [.int (gF w2 8)], hp E w2)) hM_96 2 rfl (Ev.fin hM_96 rfl rfl)) ?_
  refine Ev.run (c' := (378, [.ref 0, .ref 1, .ref 27, .ref 37, .int (I j1), .int v1, .int v2], [.int v1, .int (gF w2 8)], hp E w2)) hM_153 1 rfl ?_
  refine Ev.icT hM_153 rfl (cI_eqT c3) ?_
  refine Ev.run (c' := (385, [.ref 0, .ref 1, .ref 27, .ref 37, .int (I j1), .int v1, .int v2], [.int v1], hp E w2)) hM_153 1 rfl ?_
  refine Ev.ifT hM_153 rfl (cI_neT c4) ?_
  refine Ev.run (c' := (23, [.ref 0, .ref 1, .ref 27, .ref 37, .int ((I j1) + (5 : Int32)), .int v1, .int v2], [], hp E w2)) hM_153 3 rfl ?_
  exact e
theorem p153_23_31 {E : Nat × (Nat → Int32)} {w : Wd} {d : Nat} {x4 : Int32} {u5 u6 : Value} {o : Ou} {j1 : Nat} {j2 : Nat} {j3 : Nat} {j4 : Nat} {z1 : Int32} {z2 : Int32} {w1 : Wd} {v1 : Int32} {j5 : Nat} {j6 : Nat} {j7 : Nat} {z3 : Int32} {z4 : Int32} {w2 : Wd} {v2 : Int32} {y4 : Int32} (hd : 1 ≤ d) (c1 : ¬ ((I E.1) - (5 : Int32)) < x4) (g1 : x4 = I j1) (b1 : j1 < E.1) (bE : E.1 ≤ 2147483648) (c2 : ((E.2 j1) &&& (31 : Int32)) = (2 : Int32)) (g2 : ((I j1) + (1 : Int32)) = I j2) (b2 : j2 < E.1) (g3 : ((I j1) + (2 : Int32)) = I j3) (b3 : j3 < E.1) (g4 : ((I j1) + (3 : Int32)) = I j4) (b4 : j4 < E.1) (c3 : ¬ (E.2 j4) = 0) (a1 : (E.2 j2) = z1) (a2 : (E.2 j3) = z2) (h1 : Ev (d - 1) 141 (ent0 141 [.ref 1, .int z1, .int z2, .int (1 : Int32), .ref 37] (hp E w)) (.inl (some (.int v1)), hp E w1)) (g5 : ((I j1) + (1 : Int32)) = I j5) (b5 : j5 < E.1) (g6 : ((I j1) + (2 : Int32)) = I j6) (b6 : j6 < E.1) (g7 : ((I j1) + (3 : Int32)) = I j7) (b7 : j7 < E.1) (c4 : ¬ (E.2 j7) = 0) (a3 : (E.2 j5) = z3) (a4 : (E.2 j6) = z4) (h2 : Ev (d - 1) 107 (ent0 107 [.ref 27, .int z3, .int z4, .int (1 : Int32)] (hp E w1)) (.inl (some (.int v2)), hp E w2)) (c5 : (gF w2 8) = v1) (c6 : v1 = 0) (c7 : ¬ v2 = 0) (c8 : (lg_cmp (gO w2) (1 : Int64)) = 0) (q4 : ((I j1) + (5 : Int32)) = y4) (e : Ev d 153 (23, [.ref 0, .ref 1, .ref 27, .ref 37, .int y4, .int v1, .int v2], [], hp E w2) o) : Ev d 153 (23, [.ref 0, .ref 1, .ref 27, .ref 37, .int x4, u5, u6], [], hp E w) o := by
  subst q4
  refine Ev.run (c' := (29, [.ref 0, .ref 1, .ref 27, .ref 37, .int x4, u5, u6], [.int ((I E.1) - (5 : Int32)), .int x4], hp E w)) hM_153 5 rfl ?_
  refine Ev.icF hM_153 rfl (cI_gtF c1) ?_
  refine Ev.run (c' := (35, [.ref 0, .ref 1, .ref 27, .ref 37, .int x4, u5, u6], [.int x4, .ref 0], hp E w)) hM_153 2 rfl ?_
  subst g1
  refine Ev.iald hM_153 rfl (a := 0) rfl (inb_I b1 bE) ?_
  rw [I_clamp (Nat.lt_of_lt_of_le b1 bE)]
  refine Ev.run (c' := (39, [.ref 0, .ref 1, .ref 27, .ref 37, .int (I j1), u5, u6], [.int ((E.2 j1) &&& (31 : Int32))], hp E w)) hM_153 2 rfl ?_
  rw [c2]
  refine Ev.run (c' := (250, [.ref 0, .ref 1, .ref 27, .ref 37, .int (I j1), u5, u6], [.int ((I j1) + (1 : Int32)), .ref 0, .ref 1], hp E w)) hM_153 6 rfl ?_
  rw [g2]
  refine Ev.iald hM_153 rfl (a := 0) rfl (inb_I b2 bE) ?_
  rw [I_clamp (Nat.lt_of_lt_of_le b2 bE)]
  refine Ev.run (c' := (256, [.ref 0, .ref 1, .ref 27, .ref 37, .int (I j1), u5, u6], [.int ((I j1) + (2 : Int32)), .ref 0, .int (E.2 j2), .ref 1], hp E w)) hM_153 4 rfl ?_
  rw [g3]
  refine Ev.iald hM_153 rfl (a := 0) rfl (inb_I b3 bE) ?_
  rw [I_clamp (Nat.lt_of_lt_of_le b3 bE)]
  refine Ev.run (c' := (262, [.ref 0, .ref 1, .ref 27, .ref 37, .int (I j1), u5, u6], [.int ((I j1) + (3 : Int32)), .ref 0, .int (E.2 j3), .int (E.2 j2), .ref 1], hp E w)) hM_153 4 rfl ?_
  rw [g4]
  refine Ev.iald hM_153 rfl (a := 0) rfl (inb_I b4 bE) ?_
  rw [I_clamp (Nat.lt_of_lt_of_le b4 bE)]
  refine Ev.run (c' := (263, [.ref 0, .ref 1, .ref 27, .ref 37, .int (I j1), u5, u6], [.int (E.2 j4), .int (E.2 j3), .int (E.2 j2), .ref 1], hp E w)) hM_153 0 rfl ?_
  refine Ev.ifF hM_153 rfl (cI_eqF c3) ?_
  refine Ev.run (c' := (272, [.ref 0, .ref 1, .ref 27, .ref 37, .int (I j1), u5, u6], [.ref 37, .int (1 : Int32), .int (E.2 j3), .int (E.2 j2), .ref 1], hp E w)) hM_153 3 rfl ?_
  rw [← a1] at h1
  rw [← a2] at h1
  refine Ev.callR hd hM_153 rfl (y := 141) (as := [.ref 1, .int (E.2 j2), .int (E.2 j3), .int (1 : Int32), .ref 37]) (rest := []) rfl (Nat.le_of_ble_eq_true rfl) h1 ?_
  refine Ev.run (c' := (283, [.ref 0, .ref 1, .ref 27, .ref 37, .int (I j1), .int v1, u6], [.int ((I j1) + (1 : Int32)), .ref 0, .ref 27], hp E w1)) hM_153 6 rfl ?_
  rw [g5]
  refine Ev.iald hM_153 rfl (a := 0) rfl (inb_I b5 bE) ?_
  rw [I_clamp (Nat.lt_of_lt_of_le b5 bE)]
  refine Ev.run (c' := (289, [.ref 0, .ref 1, .ref 27, .ref 37, .int (I j1), .int v1, u6], [.int ((I j1) + (2 : Int32)), .ref 0, .int (E.2 j5), .ref 27], hp E w1)) hM_153 4 rfl ?_
  rw [g6]
  refine Ev.iald hM_153 rfl (a := 0) rfl (inb_I b6 bE) ?_
  rw [I_clamp (Nat.lt_of_lt_of_le b6 bE)]
  refine Ev.run (c' := (295, [.ref 0, .ref 1, .ref 27, .ref 37, .int (I j1), .int v1, u6], [.int ((I j1) + (3 : Int32)), .ref 0, .int (E.2 j6), .int (E.2 j5), .ref 27], hp E w1)) hM_153 4 rfl ?_
  rw [g7]
  refine Ev.iald hM_153 rfl (a := 0) rfl (inb_I b7 bE) ?_
  rw [I_clamp (Nat.lt_of_lt_of_le b7 bE)]
  refine Ev.run (c' := (296, [.ref 0, .ref 1, .ref 27, .ref 37, .int (I j1), .int v1, u6], [.int (E.2 j7), .int (E.2 j6), .int (E.2 j5), .ref 27], hp E w1)) hM_153 0 rfl ?_
  refine Ev.ifF hM_153 rfl (cI_eqF c4) ?_
  refine Ev.run (c' := (304, [.ref 0, .ref 1, .ref 27, .ref 37, .int (I j1), .int v1, u6], [.int (1 : Int32), .int (E.2 j6), .int (E.2 j5), .ref 27], hp E w1)) hM_153 2 rfl ?_
  rw [← a3] at h2
  rw [← a4] at h2
  refine Ev.callR hd hM_153 rfl (y := 107) (as := [.ref 27, .int (E.2 j5), .int (E.2 j6), .int (1 : Int32)]) (rest := []) rfl (Nat.le_of_ble_eq_true rfl) h2 ?_
  refine Ev.run (c' := (310, [.ref 0, .ref 1, .ref 27, .ref 37, .int (I j1), .int v1, .int v2], [.ref 27], hp E w2)) hM_153 2 rfl ?_
  refine Ev.callR hd hM_153 rfl (y := 96) (as := [.ref 27]) (rest := []) rfl (Nat.le_of_ble_eq_true rfl) (Ev.run (c' := (4, [.ref 27], [.int (gF w2 8)], hp E w2)) hM_96 2 rfl (Ev.fin hM_96 rfl rfl)) ?_
  refine Ev.run (c' := (315, [.ref 0, .ref 1, .ref 27, .ref 37, .int (I j1), .int v1, .int v2], [.int v1, .int (gF w2 8)], hp E w2)) hM_153 1 rfl ?_
  refine Ev.icT hM_153 rfl (cI_eqT c5) ?_
  refine Ev.run (c' := (322, [.ref 0, .ref 1, .ref 27, .ref 37, .int (I j1), .int v1, .int v2], [.int v1], hp E w2)) hM_153 1 rfl ?_
  refine Ev.ifF hM_153 rfl (cI_neF c6) ?_
  refine Ev.run (c' := (330, [.ref 0, .ref 1, .ref 27, .ref 37, .int (I j1), .int v1, .int v2], [.int v2, .long (gO w2)], hp E w2)) hM_153 4 rfl ?_
  refine Ev.ifF hM_153 rfl (cI_eqF c7) ?_
  refine Ev.run (c' := (339, [.ref 0, .ref 1, .ref 27, .ref 37, .int (I j1), .int v1, .int v2], [.int (lg_cmp (gO w2) (1 : Int64))], hp E w2)) hM_153 3 rfl ?_
  refine Ev.ifT hM_153 rfl (cI_eqT c8) ?_
  refine Ev.run (c' := (23, [.ref 0, .ref 1, .ref 27, .ref 37, .int ((I j1) + (5 : Int32)), .int v1, .int v2], [], hp E w2)) hM_153 3 rfl ?_
  exact e
theorem p153_23_32 {E : Nat × (Nat → Int32)} {w : Wd} {d : Nat} {x4 : Int32} {u5 u6 : Value} {o : Ou} {j1 : Nat} {j2 : Nat} {j3 : Nat} {j4 : Nat} {z1 : Int32} {z2 : Int32} {w1 : Wd} {v1 : Int32} {j5 : Nat} {j6 : Nat} {j7 : Nat} {z3 : Int32} {z4 : Int32} {w2 : Wd} {v2 : Int32} {y4 : Int32} (hd : 1 ≤ d) (c1 : ¬ ((I E.1) - (5 : Int32)) < x4) (g1 : x4 = I j1) (b1 : j1 < E.1) (bE : E.1 ≤ 2147483648) (c2 : ((E.2 j1) &&& (31 : Int32)) = (2 : Int32)) (g2 : ((I j1) + (1 : Int32)) = I j2) (b2 : j2 < E.1) (g3 : ((I j1) + (2 : Int32)) = I j3) (b3 : j3 < E.1) (g4 : ((I j1) + (3 : Int32)) = I j4) (b4 : j4 < E.1) (c3 : ¬ (E.2 j4) = 0) (a1 : (E.2 j2) = z1) (a2 : (E.2 j3) = z2) (h1 : Ev (d - 1) 141 (ent0 141 [.ref 1, .int z1, .int z2, .int (1 : Int32), .ref 37] (hp E w)) (.inl (some (.int v1)), hp E w1)) (g5 : ((I j1) + (1 : Int32)) = I j5) (b5 : j5 < E.1) (g6 : ((I j1) + (2 : Int32)) = I j6) (b6 : j6 < E.1) (g7 : ((I j1) + (3 : Int32)) = I j7) (b7 : j7 < E.1) (c4 : ¬ (E.2 j7) = 0) (a3 : (E.2 j5) = z3) (a4 : (E.2 j6) = z4) (h2 : Ev (d - 1) 107 (ent0 107 [.ref 27, .int z3, .int z4, .int (1 : Int32)] (hp E w1)) (.inl (some (.int v2)), hp E w2)) (c5 : (gF w2 8) = v1) (c6 : v1 = 0) (c7 : v2 = 0) (c8 : (lg_cmp (gO w2) (0 : Int64)) = 0) (q4 : ((I j1) + (5 : Int32)) = y4) (e : Ev d 153 (23, [.ref 0, .ref 1, .ref 27, .ref 37, .int y4, .int v1, .int v2], [], hp E w2) o) : Ev d 153 (23, [.ref 0, .ref 1, .ref 27, .ref 37, .int x4, u5, u6], [], hp E w) o := by
  subst q4
  refine Ev.run (c' := (29, [.ref 0, .ref 1, .ref 27, .ref 37, .int x4, u5, u6], [.int ((I E.1) - (5 : Int32)), .int x4], hp E w)) hM_153 5 rfl ?_
  refine Ev.icF hM_153 rfl (cI_gtF c1) ?_
  refine Ev.run (c' := (35, [.ref 0, .ref 1, .ref 27, .ref 37, .int x4, u5, u6], [.int x4, .ref 0], hp E w)) hM_153 2 rfl ?_
  subst g1
  refine Ev.iald hM_153 rfl (a := 0) rfl (inb_I b1 bE) ?_
  rw [I_clamp (Nat.lt_of_lt_of_le b1 bE)]
  refine Ev.run (c' := (39, [.ref 0, .ref 1, .ref 27, .ref 37, .int (I j1), u5, u6], [.int ((E.2 j1) &&& (31 : Int32))], hp E w)) hM_153 2 rfl ?_
  rw [c2]
  refine Ev.run (c' := (250, [.ref 0, .ref 1, .ref 27, .ref 37, .int (I j1), u5, u6], [.int ((I j1) + (1 : Int32)), .ref 0, .ref 1], hp E w)) hM_153 6 rfl ?_
  rw [g2]
  refine Ev.iald hM_153 rfl (a := 0) rfl (inb_I b2 bE) ?_
  rw [I_clamp (Nat.lt_of_lt_of_le b2 bE)]
  refine Ev.run (c' := (256, [.ref 0, .ref 1, .ref 27, .ref 37, .int (I j1), u5, u6], [.int ((I j1) + (2 : Int32)), .ref 0, .int (E.2 j2), .ref 1], hp E w)) hM_153 4 rfl ?_
  rw [g3]
  refine Ev.iald hM_153 rfl (a := 0) rfl (inb_I b3 bE) ?_
  rw [I_clamp (Nat.lt_of_lt_of_le b3 bE)]
  refine Ev.run (c' := (262, [.ref 0, .ref 1, .ref 27, .ref 37, .int (I j1), u5, u6], [.int ((I j1) + (3 : Int32)), .ref 0, .int (E.2 j3), .int (E.2 j2), .ref 1], hp E w)) hM_153 4 rfl ?_
  rw [g4]
  refine Ev.iald hM_153 rfl (a := 0) rfl (inb_I b4 bE) ?_
  rw [I_clamp (Nat.lt_of_lt_of_le b4 bE)]
  refine Ev.run (c' := (263, [.ref 0, .ref 1, .ref 27, .ref 37, .int (I j1), u5, u6], [.int (E.2 j4), .int (E.2 j3), .int (E.2 j2), .ref 1], hp E w)) hM_153 0 rfl ?_
  refine Ev.ifF hM_153 rfl (cI_eqF c3) ?_
  refine Ev.run (c' := (272, [.ref 0, .ref 1, .ref 27, .ref 37, .int (I j1), u5, u6], [.ref 37, .int (1 : Int32), .int (E.2 j3), .int (E.2 j2), .ref 1], hp E w)) hM_153 3 rfl ?_
  rw [← a1] at h1
  rw [← a2] at h1
  refine Ev.callR hd hM_153 rfl (y := 141) (as := [.ref 1, .int (E.2 j2), .int (E.2 j3), .int (1 : Int32), .ref 37]) (rest := []) rfl (Nat.le_of_ble_eq_true rfl) h1 ?_
  refine Ev.run (c' := (283, [.ref 0, .ref 1, .ref 27, .ref 37, .int (I j1), .int v1, u6], [.int ((I j1) + (1 : Int32)), .ref 0, .ref 27], hp E w1)) hM_153 6 rfl ?_
  rw [g5]
  refine Ev.iald hM_153 rfl (a := 0) rfl (inb_I b5 bE) ?_
  rw [I_clamp (Nat.lt_of_lt_of_le b5 bE)]
  refine Ev.run (c' := (289, [.ref 0, .ref 1, .ref 27, .ref 37, .int (I j1), .int v1, u6], [.int ((I j1) + (2 : Int32)), .ref 0, .int (E.2 j5), .ref 27], hp E w1)) hM_153 4 rfl ?_
  rw [g6]
  refine Ev.iald hM_153 rfl (a := 0) rfl (inb_I b6 bE) ?_
  rw [I_clamp (Nat.lt_of_lt_of_le b6 bE)]
  refine Ev.run (c' := (295, [.ref 0, .ref 1, .ref 27, .ref 37, .int (I j1), .int v1, u6], [.int ((I j1) + (3 : Int32)), .ref 0, .int (E.2 j6), .int (E.2 j5), .ref 27], hp E w1)) hM_153 4 rfl ?_
  rw [g7]
  refine Ev.iald hM_153 rfl (a := 0) rfl (inb_I b7 bE) ?_
  rw [I_clamp (Nat.lt_of_lt_of_le b7 bE)]
  refine Ev.run (c' := (296, [.ref 0, .ref 1, .ref 27, .ref 37, .int (I j1), .int v1, u6], [.int (E.2 j7), .int (E.2 j6), .int (E.2 j5), .ref 27], hp E w1)) hM_153 0 rfl ?_
  refine Ev.ifF hM_153 rfl (cI_eqF c4) ?_
  refine Ev.run (c' := (304, [.ref 0, .ref 1, .ref 27, .ref 37, .int (I j1), .int v1, u6], [.int (1 : Int32), .int (E.2 j6), .int (E.2 j5), .ref 27], hp E w1)) hM_153 2 rfl ?_
  rw [← a3] at h2
  rw [← a4] at h2
  refine Ev.callR hd hM_153 rfl (y := 107) (as := [.ref 27, .int (E.2 j5), .int (E.2 j6), .int (1 : Int32)]) (rest := []) rfl (Nat.le_of_ble_eq_true rfl) h2 ?_
  refine Ev.run (c' := (310, [.ref 0, .ref 1, .ref 27, .ref 37, .int (I j1), .int v1, .int v2], [.ref 27], hp E w2)) hM_153 2 rfl ?_
  refine Ev.callR hd hM_153 rfl (y := 96) (as := [.ref 27]) (rest := []) rfl (Nat.le_of_ble_eq_true rfl) (Ev.run (c' := (4, [.ref 27], [.int (gF w2 8)], hp E w2)) hM_96 2 rfl (Ev.fin hM_96 rfl rfl)) ?_
  refine Ev.run (c' := (315, [.ref 0, .ref 1, .ref 27, .ref 37, .int (I j1), .int v1, .int v2], [.int v1, .int (gF w2 8)], hp E w2)) hM_153 1 rfl ?_
  refine Ev.icT hM_153 rfl (cI_eqT c5) ?_
  refine Ev.run (c' := (322, [.ref 0, .ref 1, .ref 27, .ref 37, .int (I j1), .int v1, .int v2], [.int v1], hp E w2)) hM_153 1 rfl ?_
  refine Ev.ifF hM_153 rfl (cI_neF c6) ?_
  refine Ev.run (c' := (330, [.ref 0, .ref 1, .ref 27, .ref 37, .int (I j1), .int v1, .int v2], [.int v2, .long (gO w2)], hp E w2)) hM_153 4 rfl ?_
  refine Ev.ifT hM_153 rfl (cI_eqT c7) ?_
  refine Ev.run (c' := (339, [.ref 0, .ref 1, .ref 27, .ref 37, .int (I j1), .int v1, .int v2], [.int (lg_cmp (gO w2) (0 : Int64))], hp E w2)) hM_153 2 rfl ?_
  refine Ev.ifT hM_153 rfl (cI_eqT c8) ?_
  refine Ev.run (c' := (23, [.ref 0, .ref 1, .ref 27, .ref 37, .int ((I j1) + (5 : Int32)), .int v1, .int v2], [], hp E w2)) hM_153 3 rfl ?_
  exact e
theorem p153_23_33 {E : Nat × (Nat → Int32)} {w : Wd} {d : Nat} {x4 : Int32} {u5 u6 : Value} {o : Ou} {j1 : Nat} {j2 : Nat} {j3 : Nat} {j4 : Nat} {z1 : Int32} {z2 : Int32} {w1 : Wd} {v1 : Int32} {j5 : Nat} {j6 : Nat} {j7 : Nat} {z3 : Int32} {z4 : Int32} {w2 : Wd} {v2 : Int32} {y4 : Int32} (hd : 1 ≤ d) (c1 : ¬ ((I E.1) - (5 : Int32)) < x4) (g1 : x4 = I j1) (b1 : j1 < E.1) (bE : E.1 ≤ 2147483648) (c2 : ((E.2 j1) &&& (31 : Int32)) = (2 : Int32)) (g2 : ((I j1) + (1 : Int32)) = I j2) (b2 : j2 < E.1) (g3 : ((I j1) + (2 : Int32)) = I j3) (b3 : j3 < E.1) (g4 : ((I j1) + (3 : Int32)) = I j4) (b4 : j4 < E.1) (c3 : ¬ (E.2 j4) = 0) (a1 : (E.2 j2) = z1) (a2 : (E.2 j3) = z2) (h1 : Ev (d - 1) 141 (ent0 141 [.ref 1, .int z1, .int z2, .int (1 : Int32), .ref 37] (hp E w)) (.inl (some (.int v1)), hp E w1)) (g5 : ((I j1) + (1 : Int32)) = I j5) (b5 : j5 < E.1) (g6 : ((I j1) + (2 : Int32)) = I j6) (b6 : j6 < E.1) (g7 : ((I j1) + (3 : Int32)) = I j7) (b7 : j7 < E.1) (c4 : ¬ (E.2 j7) = 0) (a3 : (E.2 j5) = z3) (a4 : (E.2 j6) = z4) (h2 : Ev (d - 1) 107 (ent0 107 [.ref 27, .int z3, .int z4, .int (1 : Int32)] (hp E w1)) (.inl (some (.int v2)), hp E w2)) (c5 : (gF w2 8) = v1) (c6 : ¬ v1 = 0) (q4 : ((I j1) + (5 : Int32)) = y4) (e : Ev d 153 (23, [.ref 0, .ref 1, .ref 27, .ref 37, .int y4, .int v1, .int v2], [], hp E w2) o) : Ev d 153 (23, [.ref 0, .ref 1, .ref 27, .ref 37, .int x4, u5, u6], [], hp E w) o := by
  subst q4
  refine Ev.run (c' := (29, [.ref 0, .ref 1, .ref 27, .ref 37, .int x4, u5, u6], [.int ((I E.1) - (5 : Int32)), .int x4], hp E w)) hM_153 5 rfl ?_
  refine Ev.icF hM_153 rfl (cI_gtF c1) ?_
  refine Ev.run (c' := (35, [.ref 0, .ref 1, .ref 27, .ref 37, .int x4, u5, u6], [.int x4, .ref 0], hp E w)) hM_153 2 rfl ?_
  subst g1
  refine Ev.iald hM_153 rfl (a := 0) rfl (inb_I b1 bE) ?_
  rw [I_clamp (Nat.lt_of_lt_of_le b1 bE)]
  refine Ev.run (c' := (39, [.ref 0, .ref 1, .ref 27, .ref 37, .int (I j1), u5, u6], [.int ((E.2 j1) &&& (31 : Int32))], hp E w)) hM_153 2 rfl ?_
  rw [c2]
  refine Ev.run (c' := (250, [.ref 0, .ref 1, .ref 27, .ref 37, .int (I j1), u5, u6], [.int ((I j1) + (1 : Int32)), .ref 0, .ref 1], hp E w)) hM_153 6 rfl ?_
  rw [g2]
  refine Ev.iald hM_153 rfl (a := 0) rfl (inb_I b2 bE) ?_
  rw [I_clamp (Nat.lt_of_lt_of_le b2 bE)]
  refine Ev.run (c' := (256, [.ref 0, .ref 1, .ref 27, .ref 37, .int (I j1), u5, u6], [.int ((I j1) + (2 : Int32)), .ref 0, .int (E.2 j2), .ref 1], hp E w)) hM_153 4 rfl ?_
  rw [g3]
  refine Ev.iald hM_153 rfl (a := 0) rfl (inb_I b3 bE) ?_
  rw [I_clamp (Nat.lt_of_lt_of_le b3 bE)]
  refine Ev.run (c' := (262, [.ref 0, .ref 1, .ref 27, .ref 37, .int (I j1), u5, u6], [.int ((I j1) + (3 : Int32)), .ref 0, .int (E.2 j3), .int (E.2 j2), .ref 1], hp E w)) hM_153 4 rfl ?_
  rw [g4]
  refine Ev.iald hM_153 rfl (a := 0) rfl (inb_I b4 bE) ?_
  rw [I_clamp (Nat.lt_of_lt_of_le b4 bE)]
  refine Ev.run (c' := (263, [.ref 0, .ref 1, .ref 27, .ref 37, .int (I j1), u5, u6], [.int (E.2 j4), .int (E.2 j3), .int (E.2 j2), .ref 1], hp E w)) hM_153 0 rfl ?_
  refine Ev.ifF hM_153 rfl (cI_eqF c3) ?_
  refine Ev.run (c' := (272, [.ref 0, .ref 1, .ref 27, .ref 37, .int (I j1), u5, u6], [.ref 37, .int (1 : Int32), .int (E.2 j3), .int (E.2 j2), .ref 1], hp E w)) hM_153 3 rfl ?_
  rw [← a1] at h1
  rw [← a2] at h1
  refine Ev.callR hd hM_153 rfl (y := 141) (as := [.ref 1, .int (E.2 j2), .int (E.2 j3), .int (1 : Int32), .ref 37]) (rest := []) rfl (Nat.le_of_ble_eq_true rfl) h1 ?_
  refine Ev.run (c' := (283, [.ref 0, .ref 1, .ref 27, .ref 37, .int (I j1), .int v1, u6], [.int ((I j1) + (1 : Int32)), .ref 0, .ref 27], hp E w1)) hM_153 6 rfl ?_
  rw [g5]
  refine Ev.iald hM_153 rfl (a := 0) rfl (inb_I b5 bE) ?_
  rw [I_clamp (Nat.lt_of_lt_of_le b5 bE)]
  refine Ev.run (c' := (289, [.ref 0, .ref 1, .ref 27, .ref 37, .int (I j1), .int v1, u6], [.int ((I j1) + (2 : Int32)), .ref 0, .int (E.2 j5), .ref 27], hp E w1)) hM_153 4 rfl ?_
  rw [g6]
  refine Ev.iald hM_153 rfl (a := 0) rfl (inb_I b6 bE) ?_
  rw [I_clamp (Nat.lt_of_lt_of_le b6 bE)]
  refine Ev.run (c' := (295, [.ref 0, .ref 1, .ref 27, .ref 37, .int (I j1), .int v1, u6], [.int ((I j1) + (3 : Int32)), .ref 0, .int (E.2 j6), .int (E.2 j5), .ref 27], hp E w1)) hM_153 4 rfl ?_
  rw [g7]
  refine Ev.iald hM_153 rfl (a := 0) rfl (inb_I b7 bE) ?_
  rw [I_clamp (Nat.lt_of_lt_of_le b7 bE)]
  refine Ev.run (c' := (296, [.ref 0, .ref 1, .ref 27, .ref 37, .int (I j1), .int v1, u6], [.int (E.2 j7), .int (E.2 j6), .int (E.2 j5), .ref 27], hp E w1)) hM_153 0 rfl ?_
  refine Ev.ifF hM_153 rfl (cI_eqF c4) ?_
  refine Ev.run (c' := (304, [.ref 0, .ref 1, .ref 27, .ref 37, .int (I j1), .int v1, u6], [.int (1 : Int32), .int (E.2 j6), .int (E.2 j5), .ref 27], hp E w1)) hM_153 2 rfl ?_
  rw [← a3] at h2
  rw [← a4] at h2
  refine Ev.callR hd hM_153 rfl (y := 107) (as := [.ref 27, .int (E.2 j5), .int (E.2 j6), .int (1 : Int32)]) (rest := []) rfl (Nat.le_of_ble_eq_true rfl) h2 ?_
  refine Ev.run (c' := (310, [.ref 0, .ref 1, .ref 27, .ref 37, .int (I j1), .int v1, .int v2], [.ref 27], hp E w2)) hM_153 2 rfl ?_
  refine Ev.callR hd hM_153 rfl (y := 96) (as := [.ref 27]) (rest := []) rfl (Nat.le_of_ble_eq_true rfl) (Ev.run (c' := (4, [.ref 27], [.int (gF w2 8)], hp E w2)) hM_96 2 rfl (Ev.fin hM_96 rfl rfl)) ?_
  refine Ev.run (c' := (315, [.ref 0, .ref 1, .ref 27, .ref 37, .int (I j1), .int v1, .int v2], [.int v1, .int (gF w2 8)], hp E w2)) hM_153 1 rfl ?_
  refine Ev.icT hM_153 rfl (cI_eqT c5) ?_
  refine Ev.run (c' := (322, [.ref 0, .ref 1, .ref 27, .ref 37, .int (I j1), .int v1, .int v2], [.int v1], hp E w2)) hM_153 1 rfl ?_
  refine Ev.ifT hM_153 rfl (cI_neT c6) ?_
  refine Ev.run (c' := (23, [.ref 0, .ref 1, .ref 27, .ref 37, .int ((I j1) + (5 : Int32)), .int v1, .int v2], [], hp E w2)) hM_153 3 rfl ?_
  exact e
theorem p153_23_34 {E : Nat × (Nat → Int32)} {w : Wd} {d : Nat} {x4 : Int32} {u5 u6 : Value} {o : Ou} {j1 : Nat} {j2 : Nat} {j3 : Nat} {j4 : Nat} {z1 : Int32} {z2 : Int32} {w1 : Wd} {v1 : Int32} {j5 : Nat} {j6 : Nat} {j7 : Nat} {z3 : Int32} {z4 : Int32} {w2 : Wd} {v2 : Int32} {y4 : Int32} (hd : 1 ≤ d) (c1 : ¬ ((I E.1) - (5 : Int32)) < x4) (g1 : x4 = I j1) (b1 : j1 < E.1) (bE : E.1 ≤ 2147483648) (c2 : ((E.2 j1) &&& (31 : Int32)) = (2 : Int32)) (g2 : ((I j1) + (1 : Int32)) = I j2) (b2 : j2 < E.1) (g3 : ((I j1) + (2 : Int32)) = I j3) (b3 : j3 < E.1) (g4 : ((I j1) + (3 : Int32)) = I j4) (b4 : j4 < E.1) (c3 : ¬ (E.2 j4) = 0) (a1 : (E.2 j2) = z1) (a2 : (E.2 j3) = z2) (h1 : Ev (d - 1) 141 (ent0 141 [.ref 1, .int z1, .int z2, .int (1 : Int32), .ref 37] (hp E w)) (.inl (some (.int v1)), hp E w1)) (g5 : ((I j1) + (1 : Int32)) = I j5) (b5 : j5 < E.1) (g6 : ((I j1) + (2 : Int32)) = I j6) (b6 : j6 < E.1) (g7 : ((I j1) + (3 : Int32)) = I j7) (b7 : j7 < E.1) (c4 : (E.2 j7) = 0) (a3 : (E.2 j5) = z3) (a4 : (E.2 j6) = z4) (h2 : Ev (d - 1) 107 (ent0 107 [.ref 27, .int z3, .int z4, .int (0 : Int32)] (hp E w1)) (.inl (some (.int v2)), hp E w2)) (c5 : (gF w2 8) = v1) (c6 : v1 = 0) (c7 : ¬ v2 = 0) (c8 : (lg_cmp (gO w2) (1 : Int64)) = 0) (q4 : ((I j1) + (5 : Int32)) = y4) (e : Ev d 153 (23, [.ref 0, .ref 1, .ref 27, .ref 37, .int y4, .int v1, .int v2], [], hp E w2) o) : Ev d 153 (23, [.ref 0, .ref 1, .ref 27, .ref 37, .int x4, u5, u6], [], hp E w) o := by
  subst q4
  refine Ev.run (c' := (29, [.ref 0, .ref 1, .ref 27, .ref 37, .int x4, u5, u6], [.int ((I E.1) - (5 : Int32)), .int x4], hp E w)) hM_153 5 rfl ?_
  refine Ev.icF hM_153 rfl (cI_gtF c1) ?_
  refine Ev.run (c' := (35, [.ref 0, .ref 1, .ref 27, .ref 37, .int x4, u5, u6], [.int x4, .ref 0], hp E w)) hM_153 2 rfl ?_
  subst g1
  refine Ev.iald hM_153 rfl (a := 0) rfl (inb_I b1 bE) ?_
  rw [I_clamp (Nat.lt_of_lt_of_le b1 bE)]
  refine Ev.run (c' := (39, [.ref 0, .ref 1, .ref 27, .ref 37, .int (I j1), u5, u6], [.int ((E.2 j1) &&& (31 : Int32))], hp E w)) hM_153 2 rfl ?_
  rw [c2]
  refine Ev.run (c' := (250, [.ref 0, .ref 1, .ref 27, .ref 37, .int (I j1), u5, u6], [.int ((I j1) + (1 : Int32)), .ref 0, .ref 1], hp E w)) hM_153 6 rfl ?_
  rw [g2]
  refine Ev.iald hM_153 rfl (a := 0) rfl (inb_I b2 bE) ?_
  rw [I_clamp (Nat.lt_of_lt_of_le b2 bE)]
  refine Ev.run (c' := (256, [.ref 0, .ref 1, .ref 27, .ref 37, .int (I j1), u5, u6], [.int ((I j1) + (2 : Int32)), .ref 0, .int (E.2 j2), .ref 1], hp E w)) hM_153 4 rfl ?_
  rw [g3]
  refine Ev.iald hM_153 rfl (a := 0) rfl (inb_I b3 bE) ?_
  rw [I_clamp (Nat.lt_of_lt_of_le b3 bE)]
  refine Ev.run (c' := (262, [.ref 0, .ref 1, .ref 27, .ref 37, .int (I j1), u5, u6], [.int ((I j1) + (3 : Int32)), .ref 0, .int (E.2 j3), .int (E.2 j2), .ref 1], hp E w)) hM_153 4 rfl ?_
  rw [g4]
  refine Ev.iald hM_153 rfl (a := 0) rfl (inb_I b4 bE) ?_
  rw [I_clamp (Nat.lt_of_lt_of_le b4 bE)]
  refine Ev.run (c' := (263, [.ref 0, .ref 1, .ref 27, .ref 37, .int (I j1), u5, u6], [.int (E.2 j4), .int (E.2 j3), .int (E.2 j2), .ref 1], hp E w)) hM_153 0 rfl ?_
  refine Ev.ifF hM_153 rfl (cI_eqF c3) ?_
  refine Ev.run (c' := (272, [.ref 0, .ref 1, .ref 27, .ref 37, .int (I j1), u5, u6], [.ref 37, .int (1 : Int32), .int (E.2 j3), .int (E.2 j2), .ref 1], hp E w)) hM_153 3 rfl ?_
  rw [← a1] at h1
  rw [← a2] at h1
  refine Ev.callR hd hM_153 rfl (y := 141) (as := [.ref 1, .int (E.2 j2), .int (E.2 j3), .int (1 : Int32), .ref 37]) (rest := []) rfl (Nat.le_of_ble_eq_true rfl) h1 ?_
  refine Ev.run (c' := (283, [.ref 0, .ref 1, .ref 27, .ref 37, .int (I j1), .int v1, u6], [.int ((I j1) + (1 : Int32)), .ref 0, .ref 27], hp E w1)) hM_153 6 rfl ?_
  rw [g5]
  refine Ev.iald hM_153 rfl (a := 0) rfl (inb_I b5 bE) ?_
  rw [I_clamp (Nat.lt_of_lt_of_le b5 bE)]
  refine Ev.run (c' := (289, [.ref 0, .ref 1, .ref 27, .ref 37, .int (I j1), .int v1, u6], [.int ((I j1) + (2 : Int32)), .ref 0, .int (E.2 j5), .ref 27], hp E w1)) hM_153 4 rfl ?_
  rw [g6]
  refine Ev.iald hM_153 rfl (a := 0) rfl (inb_I b6 bE) ?_
  rw [I_clamp (Nat.lt_of_lt_of_le b6 bE)]
  refine Ev.run (c' := (295, [.ref 0, .ref 1, .ref 27, .ref 37, .int (I j1), .int v1, u6], [.int ((I j1) + (3 : Int32)), .ref 0, .int (E.2 j6), .int (E.2 j5), .ref 27], hp E w1)) hM_153 4 rfl ?_
  rw [g7]
  refine Ev.iald hM_153 rfl (a := 0) rfl (inb_I b7 bE) ?_
  rw [I_clamp (Nat.lt_of_lt_of_le b7 bE)]
  refine Ev.run (c' := (296, [.ref 0, .ref 1, .ref 27, .ref 37, .int (I j1), .int v1, u6], [.int (E.2 j7), .int (E.2 j6), .int (E.2 j5), .ref 27], hp E w1)) hM_153 0 rfl ?_
  refine Ev.ifT hM_153 rfl (cI_eqT c4) ?_
  refine Ev.run (c' := (304, [.ref 0, .ref 1, .ref 27, .ref 37, .int (I j1), .int v1, u6], [.int (0 : Int32), .int (E.2 j6), .int (E.2 j5), .ref 27], hp E w1)) hM_153 1 rfl ?_
  rw [← a3] at h2
  rw [← a4] at h2
  refine Ev.callR hd hM_153 rfl (y := 107) (as := [.ref 27, .int (E.2 j5), .int (E.2 j6), .int (0 : Int32)]) (rest := []) rfl (Nat.le_of_ble_eq_true rfl) h2 ?_
  refine Ev.run (c' := (310, [.ref 0, .ref 1, .ref 27, .ref 37, .int (I j1), .int v1, .int v2], [.ref 27], hp E w2)) hM_153 2 rfl ?_
  refine Ev.callR hd hM_153 rfl (y := 96) (as := [.ref 27]) (rest := []) rfl (Nat.le_of_ble_eq_true rfl) (Ev.run (c' := (4, [.ref 27], [.int (gF w2 8)], hp E w2)) hM_96 2 rfl (Ev.fin hM_96 rfl rfl)) ?_
  refine Ev.run (c' := (315, [.ref 0, .ref 1, .ref 27, .ref 37, .int (I j1), .int v1, .int v2], [.int v1, .int (gF w2 8)], hp E w2)) hM_153 1 rfl ?_
  refine Ev.icT hM_153 rfl (cI_eqT c5) ?_
  refine Ev.run (c' := (322, [.ref 0, .ref 1, .ref 27, .ref 37, .int (I j1), .int v1, .int v2], [.int v1], hp E w2)) hM_153 1 rfl ?_
  refine Ev.ifF hM_153 rfl (cI_neF c6) ?_
  refine Ev.run (c' := (330, [.ref 0, .ref 1, .ref 27, .ref 37, .int (I j1), .int v1, .int v2], [.int v2, .long (gO w2)], hp E w2)) hM_153 4 rfl ?_
  refine Ev.ifF hM_153 rfl (cI_eqF c7) ?_
  refine Ev.run (c' := (339, [.ref 0, .ref 1, .ref 27, .ref 37, .int (I j1), .int v1, .int v2], [.int (lg_cmp (gO w2) (1 : Int64))], hp E w2)) hM_153 3 rfl ?_
  refine Ev.ifT hM_153 rfl (cI_eqT c8) ?_
  refine Ev.run (c' := (23, [.ref 0, .ref 1, .ref 27, .ref 37, .int ((I j1) + (5 : Int32)), .int v1, .int v2], [], hp E w2)) hM_153 3 rfl ?_
  exact e
theorem p153_23_35 {E : Nat × (Nat → Int32)} {w : Wd} {d : Nat} {x4 : Int32} {u5 u6 : Value} {o : Ou} {j1 : Nat} {j2 : Nat} {j3 : Nat} {j4 : Nat} {z1 : Int32} {z2 : Int32} {w1 : Wd} {v1 : Int32} {j5 : Nat} {j6 : Nat} {j7 : Nat} {z3 : Int32} {z4 : Int32} {w2 : Wd} {v2 : Int32} {y4 : Int32} (hd : 1 ≤ d) (c1 : ¬ ((I E.1) - (5 : Int32)) < x4) (g1 : x4 = I j1) (b1 : j1 < E.1) (bE : E.1 ≤ 2147483648) (c2 : ((E.2 j1) &&& (31 : Int32)) = (2 : Int32)) (g2 : ((I j1) + (1 : Int32)) = I j2) (b2 : j2 < E.1) (g3 : ((I j1) + (2 : Int32)) = I j3) (b3 : j3 < E.1) (g4 : ((I j1) + (3 : Int32)) = I j4) (b4 : j4 < E.1) (c3 : ¬ (E.2 j4) = 0) (a1 : (E.2 j2) = z1) (a2 : (E.2 j3) = z2) (h1 : Ev (d - 1) 141 (ent0 141 [.ref 1, .int z1, .int z2, .int (1 : Int32), .ref 37] (hp E w)) (.inl (some (.int v1)), hp E w1)) (g5 : ((I j1) + (1 : Int32)) = I j5) (b5 : j5 < E.1) (g6 : ((I j1) + (2 : Int32)) = I j6) (b6 : j6 < E.1) (g7 : ((I j1) + (3 : Int32)) = I j7) (b7 : j7 < E.1) (c4 : (E.2 j7) = 0) (a3 : (E.2 j5) = z3) (a4 : (E.2 j6) = z4) (h2 : Ev (d - 1) 107 (ent0 107 [.ref 27, .int z3, .int z4, .int (0 : Int32)] (hp E w1)) (.inl (some (.int v2)), hp E w2)) (c5 : (gF w2 8) = v1) (c6 : v1 = 0) (c7 : v2 = 0) (c8 : (lg_cmp (gO w2) (0 : Int64)) = 0) (q4 : ((I j1) + (5 : Int32)) = y4) (e : Ev d 153 (23, [.ref 0, .ref 1, .ref 27, .ref 37, .int y4, .int v1, .int v2], [], hp E w2) o) : Ev d 153 (23, [.ref 0, .ref 1, .ref 27, .ref 37, .int x4, u5, u6], [], hp E w) o := by
  subst q4
  refine Ev.run (c' := (29, [.ref 0, .ref 1, .ref 27, .ref 37, .int x4, u5, u6], [.int ((I E.1) - (5 : Int32)), .int x4], hp E w)) hM_153 5 rfl ?_
  refine Ev.icF hM_153 rfl (cI_gtF c1) ?_
  refine Ev.run (c' := (35, [.ref 0, .ref 1, .ref 27, .ref 37, .int x4, u5, u6], [.int x4, .ref 0], hp E w)) hM_153 2 rfl ?_
  subst g1
  refine Ev.iald hM_153 rfl (a := 0) rfl (inb_I b1 bE) ?_
  rw [I_clamp (Nat.lt_of_lt_of_le b1 bE)]
  refine Ev.run (c' := (39, [.ref 0, .ref 1, .ref 27, .ref 37, .int (I j1), u5, u6], [.int ((E.2 j1) &&& (31 : Int32))], hp E w)) hM_153 2 rfl ?_
  rw [c2]
  refine Ev.run (c' := (250, [.ref 0, .ref 1, .ref 27, .ref 37, .int (I j1), u5, u6], [.int ((I j1) + (1 : Int32)), .ref 0, .ref 1], hp E w)) hM_153 6 rfl ?_
  rw [g2]
  refine Ev.iald hM_153 rfl (a := 0) rfl (inb_I b2 bE) ?_
  rw [I_clamp (Nat.lt_of_lt_of_le b2 bE)]
  refine Ev.run (c' := (256, [.ref 0, .ref 1, .ref 27, .ref 37, .int (I j1), u5, u6], [.int ((I j1) + (2 : Int32)), .ref 0, .int (E.2 j2), .ref 1], hp E w)) hM_153 4 rfl ?_
  rw [g3]
  refine Ev.iald hM_153 rfl (a := 0) rfl (inb_I b3 bE) ?_
  rw [I_clamp (Nat.lt_of_lt_of_le b3 bE)]
  refine Ev.run (c' := (262, [.ref 0, .ref 1, .ref 27, .ref 37, .int (I j1), u5, u6], [.int ((I j1) + (3 : Int32)), .ref 0, .int (E.2 j3), .int (E.2 j2), .ref 1], hp E w)) hM_153 4 rfl ?_
  rw [g4]
  refine Ev.iald hM_153 rfl (a := 0) rfl (inb_I b4 bE) ?_
  rw [I_clamp (Nat.lt_of_lt_of_le b4 bE)]
  refine Ev.run (c' := (263, [.ref 0, .ref 1, .ref 27, .ref 37, .int (I j1), u5, u6], [.int (E.2 j4), .int (E.2 j3), .int (E.2 j2), .ref 1], hp E w)) hM_153 0 rfl ?_
  refine Ev.ifF hM_153 rfl (cI_eqF c3) ?_
  refine Ev.run (c' := (272, [.ref 0, .ref 1, .ref 27, .ref 37, .int (I j1), u5, u6], [.ref 37, .int (1 : Int32), .int (E.2 j3), .int (E.2 j2), .ref 1], hp E w)) hM_153 3 rfl ?_
  rw [← a1] at h1
  rw [← a2] at h1
  refine Ev.callR hd hM_153 rfl (y := 141) (as := [.ref 1, .int (E.2 j2), .int (E.2 j3), .int (1 : Int32), .ref 37]) (rest := []) rfl (Nat.le_of_ble_eq_true rfl) h1 ?_
  refine Ev.run (c' := (283, [.ref 0, .ref 1, .ref 27, .ref 37, .int (I j1), .int v1, u6], [.int ((I j1) + (1 : Int32)), .ref 0, .ref 27], hp E w1)) hM_153 6 rfl ?_
  rw [g5]
  refine Ev.iald hM_153 rfl (a := 0) rfl (inb_I b5 bE) ?_
  rw [I_clamp (Nat.lt_of_lt_of_le b5 bE)]
  refine Ev.run (c' := (289, [.ref 0, .ref 1, .ref 27, .ref 37, .int (I j1), .int v1, u6], [.int ((I j1) + (2 : Int32)), .ref 0, .int (E.2 j5), .ref 27], hp E w1)) hM_153 4 rfl ?_
  rw [g6]
  refine Ev.iald hM_153 rfl (a := 0) rfl (inb_I b6 bE) ?_
  rw [I_clamp (Nat.lt_of_lt_of_le b6 bE)]
  refine Ev.run (c' := (295, [.ref 0, .ref 1, .ref 27, .ref 37, .int (I j1), .int v1, u6], [.int ((I j1) + (3 : Int32)), .ref 0, .int (E.2 j6), .int (E.2 j5), .ref 27], hp E w1)) hM_153 4 rfl ?_
  rw [g7]
  refine Ev.iald hM_153 rfl (a := 0) rfl (inb_I b7 bE) ?_
  rw [I_clamp (Nat.lt_of_lt_of_le b7 bE)]
  refine Ev.run (c' := (296, [.ref 0, .ref 1, .ref 27, .ref 37, .int (I j1), .int v1, u6], [.int (E.2 j7), .int (E.2 j6), .int (E.2 j5), .ref 27], hp E w1)) hM_153 0 rfl ?_
  refine Ev.ifT hM_153 rfl (cI_eqT c4) ?_
  refine Ev.run (c' := (304, [.ref 0, .ref 1, .ref 27, .ref 37, .int (I j1), .int v1, u6], [.int (0 : Int32), .int (E.2 j6), .int (E.2 j5), .ref 27], hp E w1)) hM_153 1 rfl ?_
  rw [← a3] at h2
  rw [← a4] at h2
  refine Ev.callR hd hM_153 rfl (y := 107) (as := [.ref 27, .int (E.2 j5), .int (E.2 j6), .int (0 : Int32)]) (rest := []) rfl (Nat.le_of_ble_eq_true rfl) h2 ?_
  refine Ev.run (c' := (310, [.ref 0, .ref 1, .ref 27, .ref 37, .int (I j1), .int v1, .int v2], [.ref 27], hp E w2)) hM_153 2 rfl ?_
  refine Ev.callR hd hM_153 rfl (y := 96) (as := [.ref 27]) (rest := []) rfl (Nat.le_of_ble_eq_true rfl) (Ev.run (c' := (4, [.ref 27], [.int (gF w2 8)], hp E w2)) hM_96 2 rfl (Ev.fin hM_96 rfl rfl)) ?_
  refine Ev.run (c' := (315, [.ref 0, .ref 1, .ref 27, .ref 37, .int (I j1), .int v1, .int v2], [.int v1, .int (gF w2 8)], hp E w2)) hM_153 1 rfl ?_
  refine Ev.icT hM_153 rfl (cI_eqT c5) ?_
  refine Ev.run (c' := (322, [.ref 0, .ref 1, .ref 27, .ref 37, .int (I j1), .int v1, .int v2], [.int v1], hp E w2)) hM_153 1 rfl ?_
  refine Ev.ifF hM_153 rfl (cI_neF c6) ?_
  refine Ev.run (c' := (330, [.ref 0, .ref 1, .ref 27, .ref 37, .int (I j1), .int v1, .int v2], [.int v2, .long (gO w2)], hp E w2)) hM_153 4 rfl ?_
  refine Ev.ifT hM_153 rfl (cI_eqT c7) ?_
  refine Ev.run (c' := (339, [.ref 0, .ref 1, .ref 27, .ref 37, .int (I j1), .int v1, .int v2], [.int (lg_cmp (gO w2) (0 : Int64))], hp E w2)) hM_153 2 rfl ?_
  refine Ev.ifT hM_153 rfl (cI_eqT c8) ?_
  refine Ev.run (c' := (23, [.ref 0, .ref 1, .ref 27, .ref 37, .int ((I j1) + (5 : Int32)), .int v1, .int v2], [], hp E w2)) hM_153 3 rfl ?_
  exact e
theorem p153_23_36 {E : Nat × (Nat → Int32)} {w : Wd} {d : Nat} {x4 : Int32} {u5 u6 : Value} {o : Ou} {j1 : Nat} {j2 : Nat} {j3 : Nat} {j4 : Nat} {z1 : Int32} {z2 : Int32} {w1 : Wd} {v1 : Int32} {j5 : Nat} {j6 : Nat} {j7 : Nat} {z3 : Int32} {z4 : Int32} {w2 : Wd} {v2 : Int32} {y4 : Int32} (hd : 1 ≤ d) (c1 : ¬ ((I E.1) - (5 : Int32)) < x4) (g1 : x4 = I j1) (b1 : j1 < E.1) (bE : E.1 ≤ 2147483648) (c2 : ((E.2 j1) &&& (31 : Int32)) = (2 : Int32)) (g2 : ((I j1) + (1 : Int32)) = I j2) (b2 : j2 < E.1) (g3 : ((I j1) + (2 : Int32)) = I j3) (b3 : j3 < E.1) (g4 : ((I j1) + (3 : Int32)) = I j4) (b4 : j4 < E.1) (c3 : ¬ (E.2 j4) = 0) (a1 : (E.2 j2) = z1) (a2 : (E.2 j3) = z2) (h1 : Ev (d - 1) 141 (ent0 141 [.ref 1, .int z1, .int z2, .int (1 : Int32), .ref 37] (hp E w)) (.inl (some (.int v1)), hp E w1)) (g5 : ((I j1) + (1 : Int32)) = I j5) (b5 : j5 < E.1) (g6 : ((I j1) + (2 : Int32)) = I j6) (b6 : j6 < E.1) (g7 : ((I j1) + (3 : Int32)) = I j7) (b7 : j7 < E.1) (c4 : (E.2 j7) = 0) (a3 : (E.2 j5) = z3) (a4 : (E.2 j6) = z4) (h2 : Ev (d - 1) 107 (ent0 107 [.ref 27, .int z3, .int z4, .int (0 : Int32)] (hp E w1)) (.inl (some (.int v2)), hp E w2)) (c5 : (gF w2 8) = v1) (c6 : ¬ v1 = 0) (q4 : ((I j1) + (5 : Int32)) = y4) (e : Ev d 153 (23, [.ref 0, .ref 1, .ref 27, .ref 37, .int y4, .int v1, .int v2], [], hp E w2) o) : Ev d 153 (23, [.ref 0, .ref 1, .ref 27, .ref 37, .int x4, u5, u6], [], hp E w) o := by
  subst q4
  refine Ev.run (c' := (29, [.ref 0, .ref 1, .ref 27, .ref 37, .int x4, u5, u6], [.int ((I E.1) - (5 : Int32)), .int x4], hp E w)) hM_153 5 rfl ?_
  refine Ev.icF hM_153 rfl (cI_gtF c1) ?_
  refine Ev.run (c' := (35, [.ref 0, .ref 1, .ref 27, .ref 37, .int x4, u5, u6], [.int x4, .ref 0], hp E w)) hM_153 2 rfl ?_
  subst g1
  refine Ev.iald hM_153 rfl (a := 0) rfl (inb_I b1 bE) ?_
  rw [I_clamp (Nat.lt_of_lt_of_le b1 bE)]
  refine Ev.run (c' := (39, [.ref 0, .ref 1, .ref 27, .ref 37, .int (I j1), u5, u6], [.int ((E.2 j1) &&& (31 : Int32))], hp E w)) hM_153 2 rfl ?_
  rw [c2]
  refine Ev.run (c' := (250, [.ref 0, .ref 1, .ref 27, .ref 37, .int (I j1), u5, u6], [.int ((I j1) + (1 : Int32)), .ref 0, .ref 1], hp E w)) hM_153 6 rfl ?_
  rw [g2]
  refine Ev.iald hM_153 rfl (a := 0) rfl (inb_I b2 bE) ?_
  rw [I_clamp (Nat.lt_of_lt_of_le b2 bE)]
  refine Ev.run (c' := (256, [.ref 0, .ref 1, .ref 27, .ref 37, .int (I j1), u5, u6], [.int ((I j1) + (2 : Int32)), .ref 0, .int (E.2 j2), .ref 1], hp E w)) hM_153 4 rfl ?_
  rw [g3]
  refine Ev.iald hM_153 rfl (a := 0) rfl (inb_I b3 bE) ?_
  rw [I_clamp (Nat.lt_of_lt_of_le b3 bE)]
  refine Ev.run (c' := (262, [.ref 0, .ref 1, .ref 27, .ref 37, .int (I j1), u5, u6], [.int ((I j1) + (3 : Int32)), .ref 0, .int (E.2 j3), .int (E.2 j2), .ref 1], hp E w)) hM_153 4 rfl ?_
  rw [g4]
  refine Ev.iald hM_153 rfl (a := 0) rfl (inb_I b4 bE) ?_
  rw [I_clamp (Nat.lt_of_lt_of_le b4 bE)]
  refine Ev.run (c' := (263, [.ref 0, .ref 1, .ref 27, .ref 37, .int (I j1), u5, u6], [.int (E.2 j4), .int (E.2 j3), .int (E.2 j2), .ref 1], hp E w)) hM_153 0 rfl ?_
  refine Ev.ifF hM_153 rfl (cI_eqF c3) ?_
  refine Ev.run (c' := (272, [.ref 0, .ref 1, .ref 27, .ref 37, .int (I j1), u5, u6], [.ref 37, .int (1 : Int32), .int (E.2 j3), .int (E.2 j2), .ref 1], hp E w)) hM_153 3 rfl ?_
  rw [← a1] at h1
  rw [← a2] at h1
  refine Ev.callR hd hM_153 rfl (y := 141) (as := [.ref 1, .int (E.2 j2), .int (E.2 j3), .int (1 : Int32), .ref 37]) (rest := []) rfl (Nat.le_of_ble_eq_true rfl) h1 ?_
  refine Ev.run (c' := (283, [.ref 0, .ref 1, .ref 27, .ref 37, .int (I j1), .int v1, u6], [.int ((I j1) + (1 : Int32)), .ref 0, .ref 27], hp E w1)) hM_153 6 rfl ?_
  rw [g5]
  refine Ev.iald hM_153 rfl (a := 0) rfl (inb_I b5 bE) ?_
  rw [I_clamp (Nat.lt_of_lt_of_le b5 bE)]
  refine Ev.run (c' := (289, [.ref 0, .ref 1, .ref 27, .ref 37, .int (I j1), .int v1, u6], [.int ((I j1) + (2 : Int32)), .ref 0, .int (E.2 j5), .ref 27], hp E w1)) hM_153 4 rfl ?_
  rw [g6]
  refine Ev.iald hM_153 rfl (a := 0) rfl (inb_I b6 bE) ?_
  rw [I_clamp (Nat.lt_of_lt_of_le b6 bE)]
  refine Ev.run (c' := (295, [.ref 0, .ref 1, .ref 27, .ref 37, .int (I j1), .int v1, u6], [.int ((I j1) + (3 : Int32)), .ref 0, .int (E.2 j6), .int (E.2 j5), .ref 27], hp E w1)) hM_153 4 rfl ?_
  rw [g7]
  refine Ev.iald hM_153 rfl (a := 0) rfl (inb_I b7 bE) ?_
  rw [I_clamp (Nat.lt_of_lt_of_le b7 bE)]
  refine Ev.run (c' := (296, [.ref 0, .ref 1, .ref 27, .ref 37, .int (I j1), .int v1, u6], [.int (E.2 j7), .int (E.2 j6), .int (E.2 j5), .ref 27], hp E w1)) hM_153 0 rfl ?_
  refine Ev.ifT hM_153 rfl (cI_eqT c4) ?_
  refine Ev.run (c' := (304, [.ref 0, .ref 1, .ref 27, .ref 37, .int (I j1), .int v1, u6], [.int (0 : Int32), .int (E.2 j6), .int (E.2 j5), .ref 27], hp E w1)) hM_153 1 rfl ?_
  rw [← a3] at h2
  rw [← a4] at h2
  refine Ev.callR hd hM_153 rfl (y := 107) (as := [.ref 27, .int (E.2 j5), .int (E.2 j6), .int (0 : Int32)]) (rest := []) rfl (Nat.le_of_ble_eq_true rfl) h2 ?_
  refine Ev.run (c' := (310, [.ref 0, .ref 1, .ref 27, .ref 37, .int (I j1), .int v1, .int v2], [.ref 27], hp E w2)) hM_153 2 rfl ?_
  refine Ev.callR hd hM_153 rfl (y := 96) (as := [.ref 27]) (rest := []) rfl (Nat.le_of_ble_eq_true rfl) (Ev.run (c' := (4, [.ref 27], [.int (gF w2 8)], hp E w2)) hM_96 2 rfl (Ev.fin hM_96 rfl rfl)) ?_
  refine Ev.run (c' := (315, [.ref 0, .ref 1, .ref 27, .ref 37, .int (I j1), .int v1, .int v2], [.int v1, .int (gF w2 8)], hp E w2)) hM_153 1 rfl ?_
  refine Ev.icT hM_153 rfl (cI_eqT c5) ?_
  refine Ev.run (c' := (322, [.ref 0, .ref 1, .ref 27, .ref 37, .int (I j1), .int v1, .int v2], [.int v1], hp E w2)) hM_153 1 rfl ?_
  refine Ev.ifT hM_153 rfl (cI_neT c6) ?_
  refine Ev.run (c' := (23, [.ref 0, .ref 1, .ref 27, .ref 37, .int ((I j1) + (5 : Int32)), .int v1, .int v2], [], hp E w2)) hM_153 3 rfl ?_
  exact e
theorem p153_23_37 {E : Nat × (Nat → Int32)} {w : Wd} {d : Nat} {x4 : Int32} {u5 u6 : Value} {o : Ou} {j1 : Nat} {j2 : Nat} {j3 : Nat} {j4 : Nat} {z1 : Int32} {z2 : Int32} {w1 : Wd} {v1 : Int32} {j5 : Nat} {j6 : Nat} {j7 : Nat} {z3 : Int32} {z4 : Int32} {w2 : Wd} {v2 : Int32} {y4 : Int32} (hd : 1 ≤ d) (c1 : ¬ ((I E.1) - (5 : Int32)) < x4) (g1 : x4 = I j1) (b1 : j1 < E.1) (bE : E.1 ≤ 2147483648) (c2 : ((E.2 j1) &&& (31 : Int32)) = (2 : Int32)) (g2 : ((I j1) + (1 : Int32)) = I j2) (b2 : j2 < E.1) (g3 : ((I j1) + (2 : Int32)) = I j3) (b3 : j3 < E.1) (g4 : ((I j1) + (3 : Int32)) = I j4) (b4 : j4 < E.1) (c3 : (E.2 j4) = 0) (a1 : (E.2 j2) = z1) (a2 : (E.2 j3) = z2) (h1 : Ev (d - 1) 141 (ent0 141 [.ref 1, .int z1, .int z2, .int (0 : Int32), .ref 37] (hp E w)) (.inl (some (.int v1)), hp E w1)) (g5 : ((I j1) + (1 : Int32)) = I j5) (b5 : j5 < E.1) (g6 : ((I j1) + (2 : Int32)) = I j6) (b6 : j6 < E.1) (g7 : ((I j1) + (3 : Int32)) = I j7) (b7 : j7 < E.1) (c4 : ¬ (E.2 j7) = 0) (a3 : (E.2 j5) = z3) (a4 : (E.2 j6) = z4) (h2 : Ev (d - 1) 107 (ent0 107 [.ref 27, .int z3, .int z4, .int (1 : Int32)] (hp E w1)) (.inl (some (.int v2)), hp E w2)) (c5 : (gF w2 8) = v1) (c6 : v1 = 0) (c7 : ¬ v2 = 0) (c8 : (lg_cmp (gO w2) (1 : Int64)) = 0) (q4 : ((I j1) + (5 : Int32)) = y4) (e : Ev d 153 (23, [.ref 0, .ref 1, .ref 27, .ref 37, .int y4, .int v1, .int v2], [], hp E w2) o) : Ev d 153 (23, [.ref 0, .ref 1, .ref 27, .ref 37, .int x4, u5, u6], [], hp E w) o := by
  subst q4
  refine Ev.run (c' := (29, [.ref 0, .ref 1, .ref 27, .ref 37, .int x4, u5, u6], [.int ((I E.1) - (5 : Int32)), .int x4], hp E w)) hM_153 5 rfl ?_
  refine Ev.icF hM_153 rfl (cI_gtF c1) ?_
  refine Ev.run (c' := (35, [.ref 0, .ref 1, .ref 27, .ref 37, .int x4, u5, u6], [.int x4, .ref 0], hp E w)) hM_153 2 rfl ?_
  subst g1
  refine Ev.iald hM_153 rfl (a := 0) rfl (inb_I b1 bE) ?_
  rw [I_clamp (Nat.lt_of_lt_of_le b1 bE)]
  refine Ev.run (c' := (39, [.ref 0, .ref 1, .ref 27, .ref 37, .int (I j1), u5, u6], [.int ((E.2 j1) &&& (31 : Int32))], hp E w)) hM_153 2 rfl ?_
  rw [c2]
  refine Ev.run (c' := (250, [.ref 0, .ref 1, .ref 27, .ref 37, .int (I j1), u5, u6], [.int ((I j1) + (1 : Int32)), .ref 0, .ref 1], hp E w)) hM_153 6 rfl ?_
  rw [g2]
  refine Ev.iald hM_153 rfl (a := 0) rfl (inb_I b2 bE) ?_
  rw [I_clamp (Nat.lt_of_lt_of_le b2 bE)]
  refine Ev.run (c' := (256, [.ref 0, .ref 1, .ref 27, .ref 37, .int (I j1), u5, u6], [.int ((I j1) + (2 : Int32)), .ref 0, .int (E.2 j2), .ref 1], hp E w)) hM_153 4 rfl ?_
  rw [g3]
  refine Ev.iald hM_153 rfl (a := 0) rfl (inb_I b3 bE) ?_
  rw [I_clamp (Nat.lt_of_lt_of_le b3 bE)]
  refine Ev.run (c' := (262, [.ref 0, .ref 1, .ref 27, .ref 37, .int (I j1), u5, u6], [.int ((I j1) + (3 : Int32)), .ref 0, .int (E.2 j3), .int (E.2 j2), .ref 1], hp E w)) hM_153 4 rfl ?_
  rw [g4]
  refine Ev.iald hM_153 rfl (a := 0) rfl (inb_I b4 bE) ?_
  rw [I_clamp (Nat.lt_of_lt_of_le b4 bE)]
  refine Ev.run (c' := (263, [.ref 0, .ref 1, .ref 27, .ref 37, .int (I j1), u5, u6], [.int (E.2 j4), .int (E.2 j3), .int (E.2 j2), .ref 1], hp E w)) hM_153 0 rfl ?_
  refine Ev.ifT hM_153 rfl (cI_eqT c3) ?_
  refine Ev.run (c' := (272, [.ref 0, .ref 1, .ref 27, .ref 37, .int (I j1), u5, u6], [.ref 37, .int (0 : Int32), .int (E.2 j3), .int (E.2 j2), .ref 1], hp E w)) hM_153 2 rfl ?_
  rw [← a1] at h1
  rw [← a2] at h1
  refine Ev.callR hd hM_153 rfl (y := 141) (as := [.ref 1, .int (E.2 j2), .int (E.2 j3), .int (0 : Int32), .ref 37]) (rest := []) rfl (Nat.le_of_ble_eq_true rfl) h1 ?_
  refine Ev.run (c' := (283, [.ref 0, .ref 1, .ref 27, .ref 37, .int (I j1), .int v1, u6], [.int ((I j1) + (1 : Int32)), .ref 0, .ref 27], hp E w1)) hM_153 6 rfl ?_
  rw [g5]
  refine Ev.iald hM_153 rfl (a := 0) rfl (inb_I b5 bE) ?_
  rw [I_clamp (Nat.lt_of_lt_of_le b5 bE)]
  refine Ev.run (c' := (289, [.ref 0, .ref 1, .ref 27, .ref 37, .int (I j1), .int v1, u6], [.int ((I j1) + (2 : Int32)), .ref 0, .int (E.2 j5), .ref 27], hp E w1)) hM_153 4 rfl ?_
  rw [g6]
  refine Ev.iald hM_153 rfl (a := 0) rfl (inb_I b6 bE) ?_
  rw [I_clamp (Nat.lt_of_lt_of_le b6 bE)]
  refine Ev.run (c' := (295, [.ref 0, .ref 1, .ref 27, .ref 37, .int (I j1), .int v1, u6], [.int ((I j1) + (3 : Int32)), .ref 0, .int (E.2 j6), .int (E.2 j5), .ref 27], hp E w1)) hM_153 4 rfl ?_
  rw [g7]
  refine Ev.iald hM_153 rfl (a := 0) rfl (inb_I b7 bE) ?_
  rw [I_clamp (Nat.lt_of_lt_of_le b7 bE)]
  refine Ev.run (c' := (296, [.ref 0, .ref 1, .ref 27, .ref 37, .int (I j1), .int v1, u6], [.int (E.2 j7), .int (E.2 j6), .int (E.2 j5), .ref 27], hp E w1)) hM_153 0 rfl ?_
  refine Ev.ifF hM_153 rfl (cI_eqF c4) ?_
  refine Ev.run (c' := (304, [.ref 0, .ref 1, .ref 27, .ref 37, .int (I j1), .int v1, u6], [.int (1 : Int32), .int (E.2 j6), .int (E.2 j5), .ref 27], hp E w1)) hM_153 2 rfl ?_
  rw [← a3] at h2
  rw [← a4] at h2
  refine Ev.callR hd hM_153 rfl (y := 107) (as := [.ref 27, .int (E.2 j5), .int (E.2 j6), .int (1 : Int32)]) (rest := []) rfl (Nat.le_of_ble_eq_true rfl) h2 ?_
  refine Ev.run (c' := (310, [.ref 0, .ref 1, .ref 27, .ref 37, .int (I j1), .int v1, .int v2], [.ref 27], hp E w2)) hM_153 2 rfl ?_
  refine Ev.callR hd hM_153 rfl (y := 96) (as := [.ref 27]) (rest := []) rfl (Nat.le_of_ble_eq_true rfl) (Ev.run (c' := (4, [.ref 27], [.int (gF w2 8)], hp E w2)) hM_96 2 rfl (Ev.fin hM_96 rfl rfl)) ?_
  refine Ev.run (c' := (315, [.ref 0, .ref 1, .ref 27, .ref 37, .int (I j1), .int v1, .int v2], [.int v1, .int (gF w2 8)], hp E w2)) hM_153 1 rfl ?_
  refine Ev.icT hM_153 rfl (cI_eqT c5) ?_
  refine Ev.run (c' := (322, [.ref 0, .ref 1, .ref 27, .ref 37, .int (I j1), .int v1, .int v2], [.int v1], hp E w2)) hM_153 1 rfl ?_
  refine Ev.ifF hM_153 rfl (cI_neF c6) ?_
  refine Ev.run (c' := (330, [.ref 0, .ref 1, .ref 27, .ref 37, .int (I j1), .int v1, .int v2], [.int v2, .long (gO w2)], hp E w2)) hM_153 4 rfl ?_
  refine Ev.ifF hM_153 rfl (cI_eqF c7) ?_
  refine Ev.run (c' := (339, [.ref 0, .ref 1, .ref 27, .ref 37, .int (I j1), .int v1, .int v2], [.int (lg_cmp (gO w2) (1 : Int64))], hp E w2)) hM_153 3 rfl ?_
  refine Ev.ifT hM_153 rfl (cI_eqT c8) ?_
  refine Ev.run (c' := (23, [.ref 0, .ref 1, .ref 27, .ref 37, .int ((I j1) + (5 : Int32)), .int v1, .int v2], [], hp E w2)) hM_153 3 rfl ?_
  exact e
theorem p153_23_38 {E : Nat × (Nat → Int32)} {w : Wd} {d : Nat} {x4 : Int32} {u5 u6 : Value} {o : Ou} {j1 : Nat} {j2 : Nat} {j3 : Nat} {j4 : Nat} {z1 : Int32} {z2 : Int32} {w1 : Wd} {v1 : Int32} {j5 : Nat} {j6 : Nat} {j7 : Nat} {z3 : Int32} {z4 : Int32} {w2 : Wd} {v2 : Int32} {y4 : Int32} (hd : 1 ≤ d) (c1 : ¬ ((I E.1) - (5 : Int32)) < x4) (g1 : x4 = I j1) (b1 : j1 < E.1) (bE : E.1 ≤ 2147483648) (c2 : ((E.2 j1) &&& (31 : Int32)) = (2 : Int32)) (g2 : ((I j1) + (1 : Int32)) = I j2) (b2 : j2 < E.1) (g3 : ((I j1) + (2 : Int32)) = I j3) (b3 : j3 < E.1) (g4 : ((I j1) + (3 : Int32)) = I j4) (b4 : j4 < E.1) (c3 : (E.2 j4) = 0) (a1 : (E.2 j2) = z1) (a2 : (E.2 j3) = z2) (h1 : Ev (d - 1) 141 (ent0 141 [.ref 1, .int z1, .int z2, .int (0 : Int32), .ref 37] (hp E w)) (.inl (some (.int v1)), hp E w1)) (g5 : ((I j1) + (1 : Int32)) = I j5) (b5 : j5 < E.1) (g6 : ((I j1) + (2 : Int32)) = I j6) (b6 : j6 < E.1) (g7 : ((I j1) + (3 : Int32)) = I j7) (b7 : j7 < E.1) (c4 : ¬ (E.2 j7) = 0) (a3 : (E.2 j5) = z3) (a4 : (E.2 j6) = z4) (h2 : Ev (d - 1) 107 (ent0 107 [.ref 27, .int z3, .int z4, .int (1 : Int32)] (hp E w1)) (.inl (some (.int v2)), hp E w2)) (c5 : (gF w2 8) = v1) (c6 : v1 = 0) (c7 : v2 = 0) (c8 : (lg_cmp (gO w2) (0 : Int64)) = 0) (q4 : ((I j1) + (5 : Int32)) = y4) (e : Ev d 153 (23, [.ref 0, .ref 1, .ref 27, .ref 37, .int y4, .int v1, .int v2], [], hp E w2) o) : Ev d 153 (23, [.ref 0, .ref 1, .ref 27, .ref 37, .int x4, u5, u6], [], hp E w) o := by
  subst q4
  refine Ev.run (c' := (29, [.ref 0, .ref 1, .ref 27, .ref 37, .int x4, u5, u6], [.int ((I E.1) - (5 : Int32)), .int x4], hp E w)) hM_153 5 rfl ?_
  refine Ev.icF hM_153 rfl (cI_gtF c1) ?_
  refine Ev.run (c' := (35, [.ref 0, .ref 1, .ref 27, .ref 37, .int x4, u5, u6], [.int x4, .ref 0], hp E w)) hM_153 2 rfl ?_
  subst g1
  refine Ev.iald hM_153 rfl (a := 0) rfl (inb_I b1 bE) ?_
  rw [I_clamp (Nat.lt_of_lt_of_le b1 bE)]
  refine Ev.run (c' := (39, [.ref 0, .ref 1, .ref 27, .ref 37, .int (I j1), u5, u6], [.int ((E.2 j1) &&& (31 : Int32))], hp E w)) hM_153 2 rfl ?_
  rw [c2]
  refine Ev.run (c' := (250, [.ref 0, .ref 1, .ref 27, .ref 37, .int (I j1), u5, u6], [.int ((I j1) + (1 : Int32)), .ref 0, .ref 1], hp E w)) hM_153 6 rfl ?_
  rw [g2]
  refine Ev.iald hM_153 rfl (a := 0) rfl (inb_I b2 bE) ?_
  rw [I_clamp (Nat.lt_of_lt_of_le b2 bE)]
  refine Ev.run (c' := (256, [.ref 0, .ref 1, .ref 27, .ref 37, .int (I j1), u5, u6], [.int ((I j1) + (2 : Int32)), .ref 0, .int (E.2 j2), .ref 1], hp E w)) hM_153 4 rfl ?_
  rw [g3]
  refine Ev.iald hM_153 rfl (a := 0) rfl (inb_I b3 bE) ?_
  rw [I_clamp (Nat.lt_of_lt_of_le b3 bE)]
  refine Ev.run (c' := (262, [.ref 0, .ref 1, .ref 27, .ref 37, .int (I j1), u5, u6], [.int ((I j1) + (3 : Int32)), .ref 0, .int (E.2 j3), .int (E.2 j2), .ref 1], hp E w)) hM_153 4 rfl ?_
  rw [g4]
  refine Ev.iald hM_153 rfl (a := 0) rfl (inb_I b4 bE) ?_
  rw [I_clamp (Nat.lt_of_lt_of_le b4 bE)]
  refine Ev.run (c' := (263, [.ref 0, .ref 1, .ref 27, .ref 37, .int (I j1), u5, u6], [.int (E.2 j4), .int (E.2 j3), .int (E.2 j2), .ref 1], hp E w)) hM_153 0 rfl ?_
  refine Ev.ifT hM_153 rfl (cI_eqT c3) ?_
  refine Ev.run (c' := (272, [.ref 0, .ref 1, .ref 27, .ref 37, .int (I j1), u5, u6], [.ref 37, .int (0 : Int32), .int (E.2 j3), .int (E.2 j2), .ref 1], hp E w)) hM_153 2 rfl ?_
  rw [← a1] at h1
  rw [← a2] at h1
  refine Ev.callR hd hM_153 rfl (y := 141) (as := [.ref 1, .int (E.2 j2), .int (E.2 j3), .int (0 : Int32), .ref 37]) (rest := []) rfl (Nat.le_of_ble_eq_true rfl) h1 ?_
  refine Ev.run (c' := (283, [.ref 0, .ref 1, .ref 27, .ref 37, .int (I j1), .int v1, u6], [.int ((I j1) + (1 : Int32)), .ref 0, .ref 27], hp E w1)) hM_153 6 rfl ?_
  rw [g5]
  refine Ev.iald hM_153 rfl (a := 0) rfl (inb_I b5 bE) ?_
  rw [I_clamp (Nat.lt_of_lt_of_le b5 bE)]
  refine Ev.run (c' := (289, [.ref 0, .ref 1, .ref 27, .ref 37, .int (I j1), .int v1, u6], [.int ((I j1) + (2 : Int32)), .ref 0, .int (E.2 j5), .ref 27], hp E w1)) hM_153 4 rfl ?_
  rw [g6]
  refine Ev.iald hM_153 rfl (a := 0) rfl (inb_I b6 bE) ?_
  rw [I_clamp (Nat.lt_of_lt_of_le b6 bE)]
  refine Ev.run (c' := (295, [.ref 0, .ref 1, .ref 27, .ref 37, .int (I j1), .int v1, u6], [.int ((I j1) + (3 : Int32)), .ref 0, .int (E.2 j6), .int (E.2 j5), .ref 27], hp E w1)) hM_153 4 rfl ?_
  rw [g7]
  refine Ev.iald hM_153 rfl (a := 0) rfl (inb_I b7 bE) ?_
  rw [I_clamp (Nat.lt_of_lt_of_le b7 bE)]
  refine Ev.run (c' := (296, [.ref 0, .ref 1, .ref 27, .ref 37, .int (I j1), .int v1, u6], [.int (E.2 j7), .int (E.2 j6), .int (E.2 j5), .ref 27], hp E w1)) hM_153 0 rfl ?_
  refine Ev.ifF hM_153 rfl (cI_eqF c4) ?_
  refine Ev.run (c' := (304, [.ref 0, .ref 1, .ref 27, .ref 37, .int (I j1), .int v1, u6], [.int (1 : Int32), .int (E.2 j6), .int (E.2 j5), .ref 27], hp E w1)) hM_153 2 rfl ?_
  rw [← a3] at h2
  rw [← a4] at h2
  refine Ev.callR hd hM_153 rfl (y := 107) (as := [.ref 27, .int (E.2 j5), .int (E.2 j6), .int (1 : Int32)]) (rest := []) rfl (Nat.le_of_ble_eq_true rfl) h2 ?_
  refine Ev.run (c' := (310, [.ref 0, .ref 1, .ref 27, .ref 37, .int (I j1), .int v1, .int v2], [.ref 27], hp E w2)) hM_153 2 rfl ?_
  refine Ev.callR hd hM_153 rfl (y := 96) (as := [.ref 27]) (rest := []) rfl (Nat.le_of_ble_eq_true rfl) (Ev.run (c' := (4, [.ref 27], [.int (gF w2 8)], hp E w2)) hM_96 2 rfl (Ev.fin hM_96 rfl rfl)) ?_
  refine Ev.run (c' := (315, [.ref 0, .ref 1, .ref 27, .ref 37, .int (I j1), .int v1, .int v2], [.int v1, .int (gF w2 8)], hp E w2)) hM_153 1 rfl ?_
  refine Ev.icT hM_153 rfl (cI_eqT c5) ?_
  refine Ev.run (c' := (322, [.ref 0, .ref 1, .ref 27, .ref 37, .int (I j1), .int v1, .int v2], [.int v1], hp E w2)) hM_153 1 rfl ?_
  refine Ev.ifF hM_153 rfl (cI_neF c6) ?_
  refine Ev.run (c' := (330, [.ref 0, .ref 1, .ref 27, .ref 37, .int (I j1), .int v1, .int v2], [.int v2, .long (gO w2)], hp E w2)) hM_153 4 rfl ?_
  refine Ev.ifT hM_153 rfl (cI_eqT c7) ?_
  refine Ev.run (c' := (339, [.ref 0, .ref 1, .ref 27, .ref 37, .int (I j1), .int v1, .int v2], [.int (lg_cmp (gO w2) (0 : Int64))], hp E w2)) hM_153 2 rfl ?_
  refine Ev.ifT hM_153 rfl (cI_eqT c8) ?_
  refine Ev.run (c' := (23, [.ref 0, .ref 1, .ref 27, .ref 37, .int ((I j1) + (5 : Int32)), .int v1, .int v2], [], hp E w2)) hM_153 3 rfl ?_
  exact e
theorem p153_23_39 {E : Nat × (Nat → Int32)} {w : Wd} {d : Nat} {x4 : Int32} {u5 u6 : Value} {o : Ou} {j1 : Nat} {j2 : Nat} {j3 : Nat} {j4 : Nat} {z1 : Int32} {z2 : Int32} {w1 : Wd} {v1 : Int32} {j5 : Nat} {j6 : Nat} {j7 : Nat} {z3 : Int32} {z4 : Int32} {w2 : Wd} {v2 : Int32} {y4 : Int32} (hd : 1 ≤ d) (c1 : ¬ ((I E.1) - (5 : Int32)) < x4) (g1 : x4 = I j1) (b1 : j1 < E.1) (bE : E.1 ≤ 2147483648) (c2 : ((E.2 j1) &&& (31 : Int32)) = (2 : Int32)) (g2 : ((I j1) + (1 : Int32)) = I j2) (b2 : j2 < E.1) (g3 : ((I j1) + (2 : Int32)) = I j3) (b3 : j3 < E.1) (g4 : ((I j1) + (3 : Int32)) = I j4) (b4 : j4 < E.1) (c3 : (E.2 j4) = 0) (a1 : (E.2 j2) = z1) (a2 : (E.2 j3) = z2) (h1 : Ev (d - 1) 141 (ent0 141 [.ref 1, .int z1, .int z2, .int (0 : Int32), .ref 37] (hp E w)) (.inl (some (.int v1)), hp E w1)) (g5 : ((I j1) + (1 : Int32)) = I j5) (b5 : j5 < E.1) (g6 : ((I j1) + (2 : Int32)) = I j6) (b6 : j6 < E.1) (g7 : ((I j1) + (3 : Int32)) = I j7) (b7 : j7 < E.1) (c4 : ¬ (E.2 j7) = 0) (a3 : (E.2 j5) = z3) (a4 : (E.2 j6) = z4) (h2 : Ev (d - 1) 107 (ent0 107 [.ref 27, .int z3, .int z4, .int (1 : Int32)] (hp E w1)) (.inl (some (.int v2)), hp E w2)) (c5 : (gF w2 8) = v1) (c6 : ¬ v1 = 0) (q4 : ((I j1) + (5 : Int32)) = y4) (e : Ev d 153 (23, [.ref 0, .ref 1, .ref 27, .ref 37, .int y4, .int v1, .int v2], [], hp E w2) o) : Ev d 153 (23, [.ref 0, .ref 1, .ref 27, .ref 37, .int x4, u5, u6], [], hp E w) o := by
  subst q4
  refine Ev.run (c' := (29, [.ref 0, .ref 1, .ref 27, .ref 37, .int x4, u5, u6], [.int ((I E.1) - (5 : Int32)), .int x4], hp E w)) hM_153 5 rfl ?_
  refine Ev.icF hM_153 rfl (cI_gtF c1) ?_
  refine Ev.run (c' := (35, [.ref 0, .ref 1, .ref 27, .ref 37, .int x4, u5, u6], [.int x4, .ref 0], hp E w)) hM_153 2 rfl ?_
  subst g1
  refine Ev.iald hM_153 rfl (a := 0) rfl (inb_I b1 bE) ?_
  rw [I_clamp (Nat.lt_of_lt_of_le b1 bE)]
  refine Ev.run (c' := (39, [.ref 0, .ref 1, .ref 27, .ref 37, .int (I j1), u5, u6], [.int ((E.2 j1) &&& (31 : Int32))], hp E w)) hM_153 2 rfl ?_
  rw [c2]
  refine Ev.run (c' := (250, [.ref 0, .ref 1, .ref 27, .ref 37, .int (I j1), u5, u6], [.int ((I j1) + (1 : Int32)), .ref 0, .ref 1], hp E w)) hM_153 6 rfl ?_
  rw [g2]
  refine Ev.iald hM_153 rfl (a := 0) rfl (inb_I b2 bE) ?_
  rw [I_clamp (Nat.lt_of_lt_of_le b2 bE)]
  refine Ev.run (c' := (256, [.ref 0, .ref 1, .ref 27, .ref 37, .int (I j1), u5, u6], [.int ((I j1) + (2 : Int32)), .ref 0, .int (E.2 j2), .ref 1], hp E w)) hM_153 4 rfl ?_
  rw [g3]
  refine Ev.iald hM_153 rfl (a := 0) rfl (inb_I b3 bE) ?_
  rw [I_clamp (Nat.lt_of_lt_of_le b3 bE)]
  refine Ev.run (c' := (262, [.ref 0, .ref 1, .ref 27, .ref 37, .int (I j1), u5, u6], [.int ((I j1) + (3 : Int32)), .ref 0, .int (E.2 j3), .int (E.2 j2), .ref 1], hp E w)) hM_153 4 rfl ?_
  rw [g4]
  refine Ev.iald hM_153 rfl (a := 0) rfl (inb_I b4 bE) ?_
  rw [I_clamp (Nat.lt_of_lt_of_le b4 bE)]
  refine Ev.run (c' := (263, [.ref 0, .ref 1, .ref 27, .ref 37, .int (I j1), u5, u6], [.int (E.2 j4), .int (E.2 j3), .int (E.2 j2), .ref 1], hp E w)) hM_153 0 rfl ?_
  refine Ev.ifT hM_153 rfl (cI_eqT c3) ?_
  refine Ev.run (c' := (272, [.ref 0, .ref 1, .ref 27, .ref 37, .int (I j1), u5, u6], [.ref 37, .int (0 : Int32), .int (E.2 j3), .int (E.2 j2), .ref 1], hp E w)) hM_153 2 rfl ?_
  rw [← a1] at h1
  rw [← a2] at h1
  refine Ev.callR hd hM_153 rfl (y := 141) (as := [.ref 1, .int (E.2 j2), .int (E.2 j3), .int (0 : Int32), .ref 37]) (rest := []) rfl (Nat.le_of_ble_eq_true rfl) h1 ?_
  refine Ev.run (c' := (283, [.ref 0, .ref 1, .ref 27, .ref 37, .int (I j1), .int v1, u6], [.int ((I j1) + (1 : Int32)), .ref 0, .ref 27], hp E w1)) hM_153 6 rfl ?_
  rw [g5]
  refine Ev.iald hM_153 rfl (a := 0) rfl (inb_I b5 bE) ?_
  rw [I_clamp (Nat.lt_of_lt_of_le b5 bE)]
  refine Ev.run (c' := (289, [.ref 0, .ref 1, .ref 27, .ref 37, .int (I j1), .int v1, u6], [.int ((I j1) + (2 : Int32)), .ref 0, .int (E.2 j5), .ref 27], hp E w1)) hM_153 4 rfl ?_
  rw [g6]
  refine Ev.iald hM_153 rfl (a := 0) rfl (inb_I b6 bE) ?_
  rw [I_clamp (Nat.lt_of_lt_of_le b6 bE)]
  refine Ev.run (c' := (295, [.ref 0, .ref 1, .ref 27, .ref 37, .int (I j1), .int v1, u6], [.int ((I j1) + (3 : Int32)), .ref 0, .int (E.2 j6), .int (E.2 j5), .ref 27], hp E w1)) hM_153 4 rfl ?_
  rw [g7]
  refine Ev.iald hM_153 rfl (a := 0) rfl (inb_I b7 bE) ?_
  rw [I_clamp (Nat.lt_of_lt_of_le b7 bE)]
  refine Ev.run (c' := (296, [.ref 0, .ref 1, .ref 27, .ref 37, .int (I j1), .int v1, u6], [.int (E.2 j7), .int (E.2 j6), .int (E.2 j5), .ref 27], hp E w1)) hM_153 0 rfl ?_
  refine Ev.ifF hM_153 rfl (cI_eqF c4) ?_
  refine Ev.run (c' := (304, [.ref 0, .ref 1, .ref 27, .ref 37, .int (I j1), .int v1, u6], [.int (1 : Int32), .int (E.2 j6), .int (E.2 j5), .ref 27], hp E w1)) hM_153 2 rfl ?_
  rw [← a3] at h2
  rw [← a4] at h2
  refine Ev.callR hd hM_153 rfl (y := 107) (as := [.ref 27, .int (E.2 j5), .int (E.2 j6), .int (1 : Int32)]) (rest := []) rfl (Nat.le_of_ble_eq_true rfl) h2 ?_
  refine Ev.run (c' := (310, [.ref 0, .ref 1, .ref 27, .ref 37, .int (I j1), .int v1, .int v2], [.ref 27], hp E w2)) hM_153 2 rfl ?_
  refine Ev.callR hd hM_153 rfl (y := 96) (as := [.ref 27]) (rest := []) rfl (Nat.le_of_ble_eq_true rfl) (Ev.run (c' := (4, [.ref 27], [.int (gF w2 8)], hp E w2)) hM_96 2 rfl (Ev.fin hM_96 rfl rfl)) ?_
  refine Ev.run (c' := (315, [.ref 0, .ref 1, .ref 27, .ref 37, .int (I j1), .int v1, .int v2], [.int v1, .int (gF w2 8)], hp E w2)) hM_153 1 rfl ?_
  refine Ev.icT hM_153 rfl (cI_eqT c5) ?_
  refine Ev.run (c' := (322, [.ref 0, .ref 1, .ref 27, .ref 37, .int (I j1), .int v1, .int v2], [.int v1], hp E w2)) hM_153 1 rfl ?_
  refine Ev.ifT hM_153 rfl (cI_neT c6) ?_
  refine Ev.run (c' := (23, [.ref 0, .ref 1, .ref 27, .ref 37, .int ((I j1) + (5 : Int32)), .int v1, .int v2], [], hp E w2)) hM_153 3 rfl ?_
  exact e
theorem p153_23_40 {E : Nat × (Nat → Int32)} {w : Wd} {d : Nat} {x4 : Int32} {u5 u6 : Value} {o : Ou} {j1 : Nat} {j2 : Nat} {j3 : Nat} {j4 : Nat} {z1 : Int32} {z2 : Int32} {w1 : Wd} {v1 : Int32} {j5 : Nat} {j6 : Nat} {j7 : Nat} {z3 : Int32} {z4 : Int32} {w2 : Wd} {v2 : Int32} {y4 : Int32} (hd : 1 ≤ d) (c1 : ¬ ((I E.1) - (5 : Int32)) < x4) (g1 : x4 = I j1) (b1 : j1 < E.1) (bE : E.1 ≤ 2147483648) (c2 : ((E.2 j1) &&& (31 : Int32)) = (2 : Int32)) (g2 : ((I j1) + (1 : Int32)) = I j2) (b2 : j2 < E.1) (g3 : ((I j1) + (2 : Int32)) = I j3) (b3 : j3 < E.1) (g4 : ((I j1) + (3 : Int32)) = I j4) (b4 : j4 < E.1) (c3 : (E.2 j4) = 0) (a1 : (E.2 j2) = z1) (a2 : (E.2 j3) = z2) (h1 : Ev (d - 1) 141 (ent0 141 [.ref 1, .int z1, .int z2, .int (0 : Int32), .ref 37] (hp E w)) (.inl (some (.int v1)), hp E w1)) (g5 : ((I j1) + (1 : Int32)) = I j5) (b5 : j5 < E.1) (g6 : ((I j1) + (2 : Int32)) = I j6) (b6 : j6 < E.1) (g7 : ((I j1) + (3 : Int32)) = I j7) (b7 : j7 < E.1) (c4 : (E.2 j7) = 0) (a3 : (E.2 j5) = z3) (a4 : (E.2 j6) = z4) (h2 : Ev (d - 1) 107 (ent0 107 [.ref 27, .int z3, .int z4, .int (0 : Int32)] (hp E w1)) (.inl (some (.int v2)), hp E w2)) (c5 : (gF w2 8) = v1) (c6 : v1 = 0) (c7 : ¬ v2 = 0) (c8 : (lg_cmp (gO w2) (1 : Int64)) = 0) (q4 : ((I j1) + (5 : Int32)) = y4) (e : Ev d 153 (23, [.ref 0, .ref 1, .ref 27, .ref 37, .int y4, .int v1, .int v2], [], hp E w2) o) : Ev d 153 (23, [.ref 0, .ref 1, .ref 27, .ref 37, .int x4, u5, u6], [], hp E w) o := by
  subst q4
  refine Ev.run (c' := (29, [.ref 0, .ref 1, .ref 27, .ref 37, .int x4, u5, u6], [.int ((I E.1) - (5 : Int32)), .int x4], hp E w)) hM_153 5 rfl ?_
  refine Ev.icF hM_153 rfl (cI_gtF c1) ?_
  refine Ev.run (c' := (35, [.ref 0, .ref 1, .ref 27, .ref 37, .int x4, u5, u6], [.int x4, .ref 0], hp E w)) hM_153 2 rfl ?_
  subst g1
  refine Ev.iald hM_153 rfl (a := 0) rfl (inb_I b1 bE) ?_
  rw [I_clamp (Nat.lt_of_lt_of_le b1 bE)]
  refine Ev.run (c' := (39, [.ref 0, .ref 1, .ref 27, .ref 37, .int (I j1), u5, u6], [.int ((E.2 j1) &&& (31 : Int32))], hp E w)) hM_153 2 rfl ?_
  rw [c2]
  refine Ev.run (c' := (250, [.ref 0, .ref 1, .ref 27, .ref 37, .int (I j1), u5, u6], [.int ((I j1) + (1 : Int32)), .ref 0, .ref 1], hp E w)) hM_153 6 rfl ?_
  rw [g2]
  refine Ev.iald hM_153 rfl (a := 0) rfl (inb_I b2 bE) ?_
  rw [I_clamp (Nat.lt_of_lt_of_le b2 bE)]
  refine Ev.run (c' := (256, [.ref 0, .ref 1, .ref 27, .ref 37, .int (I j1), u5, u6], [.int ((I j1) + (2 : Int32)), .ref 0, .int (E.2 j2), .ref 1], hp E w)) hM_153 4 rfl ?_
  rw [g3]
  refine Ev.iald hM_153 rfl (a := 0) rfl (inb_I b3 bE) ?_
  rw [I_clamp (Nat.lt_of_lt_of_le b3 bE)]
  refine Ev.run (c' := (262, [.ref 0, .ref 1, .ref 27, .ref 37, .int (I j1), u5, u6], [.int ((I j1) + (3 : Int32)), .ref 0, .int (E.2 j3), .int (E.2 j2), .ref 1], hp E w)) hM_153 4 rfl ?_
  rw [g4]
  refine Ev.iald hM_153 rfl (a := 0) rfl (inb_I b4 bE) ?_
  rw [I_clamp (Nat.lt_of_lt_of_le b4 bE)]
  refine Ev.run (c' := (263, [.ref 0, .ref 1, .ref 27, .ref 37, .int (I j1), u5, u6], [.int (E.2 j4), .int (E.2 j3), .int (E.2 j2), .ref 1], hp E w)) hM_153 0 rfl ?_
  refine Ev.ifT hM_153 rfl (cI_eqT c3) ?_
  refine Ev.run (c' := (272, [.ref 0, .ref 1, .ref 27, .ref 37, .int (I j1), u5, u6], [.ref 37, .int (0 : Int32), .int (E.2 j3), .int (E.2 j2), .ref 1], hp E w)) hM_153 2 rfl ?_
  rw [← a1] at h1
  rw [← a2] at h1
  refine Ev.callR hd hM_153 rfl (y := 141) (as := [.ref 1, .int (E.2 j2), .int (E.2 j3), .int (0 : Int32), .ref 37]) (rest := []) rfl (Nat.le_of_ble_eq_true rfl) h1 ?_
  refine Ev.run (c' := (283, [.ref 0, .ref 1, .ref 27, .ref 37, .int (I j1), .int v1, u6], [.int ((I j1) + (1 : Int32)), .ref 0, .ref 27], hp E w1)) hM_153 6 rfl ?_
  rw [g5]
  refine Ev.iald hM_153 rfl (a := 0) rfl (inb_I b5 bE) ?_
  rw [I_clamp (Nat.lt_of_lt_of_le b5 bE)]
  refine Ev.run (c' := (289, [.ref 0, .ref 1, .ref 27, .ref 37, .int (I j1), .int v1, u6], [.int ((I j1) + (2 : Int32)), .ref 0, .int (E.2 j5), .ref 27], hp E w1)) hM_153 4 rfl ?_
  rw [g6]
  refine Ev.iald hM_153 rfl (a := 0) rfl (inb_I b6 bE) ?_
  rw [I_clamp (Nat.lt_of_lt_of_le b6 bE)]
  refine Ev.run (c' := (295, [.ref 0, .ref 1, .ref 27, .ref 37, .int (I j1), .int v1, u6], [.int ((I j1) + (3 : Int32)), .ref 0, .int (E.2 j6), .int (E.2 j5), .ref 27], hp E w1)) hM_153 4 rfl ?_
  rw [g7]
  refine Ev.iald hM_153 rfl (a := 0) rfl (inb_I b7 bE) ?_
  rw [I_clamp (Nat.lt_of_lt_of_le b7 bE)]
  refine Ev.run (c' := (296, [.ref 0, .ref 1, .ref 27, .ref 37, .int (I j1), .int v1, u6], [.int (E.2 j7), .int (E.2 j6), .int (E.2 j5), .ref 27], hp E w1)) hM_153 0 rfl ?_
  refine Ev.ifT hM_153 rfl (cI_eqT c4) ?_
  refine Ev.run (c' := (304, [.ref 0, .ref 1, .ref 27, .ref 37, .int (I j1), .int v1, u6], [.int (0 : Int32), .int (E.2 j6), .int (E.2 j5), .ref 27], hp E w1)) hM_153 1 rfl ?_
  rw [← a3] at h2
  rw [← a4] at h2
  refine Ev.callR hd hM_153 rfl (y := 107) (as := [.ref 27, .int (E.2 j5), .int (E.2 j6), .int (0 : Int32)]) (rest := []) rfl (Nat.le_of_ble_eq_true rfl) h2 ?_
  refine Ev.run (c' := (310, [.ref 0, .ref 1, .ref 27, .ref 37, .int (I j1), .int v1, .int v2], [.ref 27], hp E w2)) hM_153 2 rfl ?_
  refine Ev.callR hd hM_153 rfl (y := 96) (as := [.ref 27]) (rest := []) rfl (Nat.le_of_ble_eq_true rfl) (Ev.run (c' := (4, [.ref 27], [.int (gF w2 8)], hp E w2)) hM_96 2 rfl (Ev.fin hM_96 rfl rfl)) ?_
  refine Ev.run (c' := (315, [.ref 0, .ref 1, .ref 27, .ref 37, .int (I j1), .int v1, .int v2], [.int v1, .int (gF w2 8)], hp E w2)) hM_153 1 rfl ?_
  refine Ev.icT hM_153 rfl (cI_eqT c5) ?_
  refine Ev.run (c' := (322, [.ref 0, .ref 1, .ref 27, .ref 37, .int (I j1), .int v1, .int v2], [.int v1], hp E w2)) hM_153 1 rfl ?_
  refine Ev.ifF hM_153 rfl (cI_neF c6) ?_
  refine Ev.run (c' := (330, [.ref 0, .ref 1, .ref 27, .ref 37, .int (I j1), .int v1, .int v2], [.int v2, .long (gO w2)], hp E w2)) hM_153 4 rfl ?_
  refine Ev.ifF hM_153 rfl (cI_eqF c7) ?_
  refine Ev.run (c' := (339, [.ref 0, .ref 1, .ref 27, .ref 37, .int (I j1), .int v1, .int v2], [.int (lg_cmp (gO w2) (1 : Int64))], hp E w2)) hM_153 3 rfl ?_
  refine Ev.ifT hM_153 rfl (cI_eqT c8) ?_
  refine Ev.run (c' := (23, [.ref 0, .ref 1, .ref 27, .ref 37, .int ((I j1) + (5 : Int32)), .int v1, .int v2], [], hp E w2)) hM_153 3 rfl ?_
  exact e
theorem p153_23_41 {E : Nat × (Nat → Int32)} {w : Wd} {d : Nat} {x4 : Int32} {u5 u6 : Value} {o : Ou} {j1 : Nat} {j2 : Nat} {j3 : Nat} {j4 : Nat} {z1 : Int32} {z2 : Int32} {w1 : Wd} {v1 : Int32} {j5 : Nat} {j6 : Nat} {j7 : Nat} {z3 : Int32} {z4 : Int32} {w2 : Wd} {v2 : Int32} {y4 : Int32} (hd : 1 ≤ d) (c1 : ¬ ((I E.1) - (5 : Int32)) < x4) (g1 : x4 = I j1) (b1 : j1 < E.1) (bE : E.1 ≤ 2147483648) (c2 : ((E.2 j1) &&& (31 : Int32)) = (2 : Int32)) (g2 : ((I j1) + (1 : Int32)) = I j2) (b2 : j2 < E.1) (g3 : ((I j1) + (2 : Int32)) = I j3) (b3 : j3 < E.1) (g4 : ((I j1) + (3 : Int32)) = I j4) (b4 : j4 < E.1) (c3 : (E.2 j4) = 0) (a1 : (E.2 j2) = z1) (a2 : (E.2 j3) = z2) (h1 : Ev (d - 1) 141 (ent0 141 [.ref 1, .int z1, .int z2, .int (0 : Int32), .ref 37] (hp E w)) (.inl (some (.int v1)), hp E w1)) (g5 : ((I j1) + (1 : Int32)) = I j5) (b5 : j5 < E.1) (g6 : ((I j1) + (2 : Int32)) = I j6) (b6 : j6 < E.1) (g7 : ((I j1) + (3 : Int32)) = I j7) (b7 : j7 < E.1) (c4 : (E.2 j7) = 0) (a3 : (E.2 j5) = z3) (a4 : (E.2 j6) = z4) (h2 : Ev (d - 1) 107 (ent0 107 [.ref 27, .int z3, .int z4, .int (0 : Int32)] (hp E w1)) (.inl (some (.int v2)), hp E w2)) (c5 : (gF w2 8) = v1) (c6 : v1 = 0) (c7 : v2 = 0) (c8 : (lg_cmp (gO w2) (0 : Int64)) = 0) (q4 : ((I j1) + (5 : Int32)) = y4) (e : Ev d 153 (23, [.ref 0, .ref 1, .ref 27, .ref 37, .int y4, .int v1, .int v2], [], hp E w2) o) : Ev d 153 (23, [.ref 0, .ref 1, .ref 27, .ref 37, .int x4, u5, u6], [], hp E w) o := by
  subst q4
  refine Ev.run (c' := (29, [.ref 0, .ref 1, .ref 27, .ref 37, .int x4, u5, u6], [.int ((I E.1) - (5 : Int32)), .int x4], hp E w)) hM_153 5 rfl ?_
  refine Ev.icF hM_153 rfl (cI_gtF c1) ?_
  refine Ev.run (c' := (35, [.ref 0, .ref 1, .ref 27, .ref 37, .int x4, u5, u6], [.int x4, .ref 0], hp E w)) hM_153 2 rfl ?_
  subst g1
  refine Ev.iald hM_153 rfl (a := 0) rfl (inb_I b1 bE) ?_
  rw [I_clamp (Nat.lt_of_lt_of_le b1 bE)]
  refine Ev.run (c' := (39, [.ref 0, .ref 1, .ref 27, .ref 37, .int (I j1), u5, u6], [.int ((E.2 j1) &&& (31 : Int32))], hp E w)) hM_153 2 rfl ?_
  rw [c2]
  refine Ev.run (c' := (250, [.ref 0, .ref 1, .ref 27, .ref 37, .int (I j1), u5, u6], [.int ((I j1) + (1 : Int32)), .ref 0, .ref 1], hp E w)) hM_153 6 rfl ?_
  rw [g2]
  refine Ev.iald hM_153 rfl (a := 0) rfl (inb_I b2 bE) ?_
  rw [I_clamp (Nat.lt_of_lt_of_le b2 bE)]
  refine Ev.run (c' := (256, [.ref 0, .ref 1, .ref 27, .ref 37, .int (I j1), u5, u6], [.int ((I j1) + (2 : Int32)), .ref 0, .int (E.2 j2), .ref 1], hp E w)) hM_153 4 rfl ?_
  rw [g3]
  refine Ev.iald hM_153 rfl (a := 0) rfl (inb_I b3 bE) ?_
  rw [I_clamp (Nat.lt_of_lt_of_le b3 bE)]
  refine Ev.run (c' := (262, [.ref 0, .ref 1, .ref 27, .ref 37, .int (I j1), u5, u6], [.int ((I j1) + (3 : Int32)), .ref 0, .int (E.2 j3), .int (E.2 j2), .ref 1], hp E w)) hM_153 4 rfl ?_
  rw [g4]
  refine Ev.iald hM_153 rfl (a := 0) rfl (inb_I b4 bE) ?_
  rw [I_clamp (Nat.lt_of_lt_of_le b4 bE)]
  refine Ev.run (c' := (263, [.ref 0, .ref 1, .ref 27, .ref 37, .int (I j1), u5, u6], [.int (E.2 j4), .int (E.2 j3), .int (E.2 j2), .ref 1], hp E w)) hM_153 0 rfl ?_
  refine Ev.ifT hM_153 rfl (cI_eqT c3) ?_
  refine Ev.run (c' := (272, [.ref 0, .ref 1, .ref 27, .ref 37, .int (I j1), u5, u6], [.ref 37, .int (0 : Int32), .int (E.2 j3), .int (E.2 j2), .ref 1], hp E w)) hM_153 2 rfl ?_
  rw [← a1] at h1
  rw [← a2] at h1
  refine Ev.callR hd hM_153 rfl (y := 141) (as := [.ref 1, .int (E.2 j2), .int (E.2 j3), .int (0 : Int32), .ref 37]) (rest := []) rfl (Nat.le_of_ble_eq_true rfl) h1 ?_
  refine Ev.run (c' := (283, [.ref 0, .ref 1, .ref 27, .ref 37, .int (I j1), .int v1, u6], [.int ((I j1) + (1 : Int32)), .ref 0, .ref 27], hp E w1)) hM_153 6 rfl ?_
  rw [g5]
  refine Ev.iald hM_153 rfl (a := 0) rfl (inb_I b5 bE) ?_
  rw [I_clamp (Nat.lt_of_lt_of_le b5 bE)]
  refine Ev.run (c' := (289, [.ref 0, .ref 1, .ref 27, .ref 37, .int (I j1), .int v1, u6], [.int ((I j1) + (2 : Int32)), .ref 0, .int (E.2 j5), .ref 27], hp E w1)) hM_153 4 rfl ?_
  rw [g6]
  refine Ev.iald hM_153 rfl (a := 0) rfl (inb_I b6 bE) ?_
  rw [I_clamp (Nat.lt_of_lt_of_le b6 bE)]
  refine Ev.run (c' := (295, [.ref 0, .ref 1, .ref 27, .ref 37, .int (I j1), .int v1, u6], [.int ((I j1) + (3 : Int32)), .ref 0, .int (E.2 j6), .int (E.2 j5), .ref 27], hp E w1)) hM_153 4 rfl ?_
  rw [g7]
  refine Ev.iald hM_153 rfl (a := 0) rfl (inb_I b7 bE) ?_
  rw [I_clamp (Nat.lt_of_lt_of_le b7 bE)]
  refine Ev.run (c' := (296, [.ref 0, .ref 1, .ref 27, .ref 37, .int (I j1), .int v1, u6], [.int (E.2 j7), .int (E.2 j6), .int (E.2 j5), .ref 27], hp E w1)) hM_153 0 rfl ?_
  refine Ev.ifT hM_153 rfl (cI_eqT c4) ?_
  refine Ev.run (c' := (304, [.ref 0, .ref 1, .ref 27, .ref 37, .int (I j1), .int v1, u6], [.int (0 : Int32), .int (E.2 j6), .int (E.2 j5), .ref 27], hp E w1)) hM_153 1 rfl ?_
  rw [← a3] at h2
  rw [← a4] at h2
  refine Ev.callR hd hM_153 rfl (y := 107) (as := [.ref 27, .int (E.2 j5), .int (E.2 j6), .int (0 : Int32)]) (rest := []) rfl (Nat.le_of_ble_eq_true rfl) h2 ?_
  refine Ev.run (c' := (310, [.ref 0, .ref 1, .ref 27, .ref 37, .int (I j1), .int v1, .int v2], [.ref 27], hp E w2)) hM_153 2 rfl ?_
  refine Ev.callR hd hM_153 rfl (y := 96) (as := [.ref 27]) (rest := []) rfl (Nat.le_of_ble_eq_true rfl) (Ev.run (c' := (4, [.ref 27], [.int (gF w2 8)], hp E w2)) hM_96 2 rfl (Ev.fin hM_96 rfl rfl)) ?_
  refine Ev.run (c' := (315, [.ref 0, .ref 1, .ref 27, .ref 37, .int (I j1), .int v1, .int v2], [.int v1, .int (gF w2 8)], hp E w2)) hM_153 1 rfl ?_
  refine Ev.icT hM_153 rfl (cI_eqT c5) ?_
  refine Ev.run (c' := (322, [.ref 0, .ref 1, .ref 27, .ref 37, .int (I j1), .int v1, .int v2], [.int v1], hp E w2)) hM_153 1 rfl ?_
  refine Ev.ifF hM_153 rfl (cI_neF c6) ?_
  refine Ev.run (c' := (330, [.ref 0, .ref 1, .ref 27, .ref 37, .int (I j1), .int v1, .int v2], [.int v2, .long (gO w2)], hp E w2)) hM_153 4 rfl ?_
  refine Ev.ifT hM_153 rfl (cI_eqT c7) ?_
  refine Ev.run (c' := (339, [.ref 0, .ref 1, .ref 27, .ref 37, .int (I j1), .int v1, .int v2], [.int (lg_cmp (gO w2) (0 : Int64))], hp E w2)) hM_153 2 rfl ?_
  refine Ev.ifT hM_153 rfl (cI_eqT c8) ?_
  refine Ev.run (c' := (23, [.ref 0, .ref 1, .ref 27, .ref 37, .int ((I j1) + (5 : Int32)), .int v1, .int v2], [], hp E w2)) hM_153 3 rfl ?_
  exact e
theorem p153_23_42 {E : Nat × (Nat → Int32)} {w : Wd} {d : Nat} {x4 : Int32} {u5 u6 : Value} {o : Ou} {j1 : Nat} {j2 : Nat} {j3 : Nat} {j4 : Nat} {z1 : Int32} {z2 : Int32} {w1 : Wd} {v1 : Int32} {j5 : Nat} {j6 : Nat} {j7 : Nat} {z3 : Int32} {z4 : Int32} {w2 : Wd} {v2 : Int32} {y4 : Int32} (hd : 1 ≤ d) (c1 : ¬ ((I E.1) - (5 : Int32)) < x4) (g1 : x4 = I j1) (b1 : j1 < E.1) (bE : E.1 ≤ 2147483648) (c2 : ((E.2 j1) &&& (31 : Int32)) = (2 : Int32)) (g2 : ((I j1) + (1 : Int32)) = I j2) (b2 : j2 < E.1) (g3 : ((I j1) + (2 : Int32)) = I j3) (b3 : j3 < E.1) (g4 : ((I j1) + (3 : Int32)) = I j4) (b4 : j4 < E.1) (c3 : (E.2 j4) = 0) (a1 : (E.2 j2) = z1) (a2 : (E.2 j3) = z2) (h1 : Ev (d - 1) 141 (ent0 141 [.ref 1, .int z1, .int z2, .int (0 : Int32), .ref 37] (hp E w)) (.inl (some (.int v1)), hp E w1)) (g5 : ((I j1) + (1 : Int32)) = I j5) (b5 : j5 < E.1) (g6 : ((I j1) + (2 : Int32)) = I j6) (b6 : j6 < E.1) (g7 : ((I j1) + (3 : Int32)) = I j7) (b7 : j7 < E.1) (c4 : (E.2 j7) = 0) (a3 : (E.2 j5) = z3) (a4 : (E.2 j6) = z4) (h2 : Ev (d - 1) 107 (ent0 107 [.ref 27, .int z3, .int z4, .int (0 : Int32)] (hp E w1)) (.inl (some (.int v2)), hp E w2)) (c5 : (gF w2 8) = v1) (c6 : ¬ v1 = 0) (q4 : ((I j1) + (5 : Int32)) = y4) (e : Ev d 153 (23, [.ref 0, .ref 1, .ref 27, .ref 37, .int y4, .int v1, .int v2], [], hp E w2) o) : Ev d 153 (23, [.ref 0, .ref 1, .ref 27, .ref 37, .int x4, u5, u6], [], hp E w) o := by
  subst q4
  refine Ev.run (c' := (29, [.ref 0, .ref 1, .ref 27, .ref 37, .int x4, u5, u6], [.int ((I E.1) - (5 : Int32)), .int x4], hp E w)) hM_153 5 rfl ?_
  refine Ev.icF hM_153 rfl (cI_gtF c1) ?_
  refine Ev.run (c' := (35, [.ref 0, .ref 1, .ref 27, .ref 37, .int x4, u5, u6], [.int x4, .ref 0], hp E w)) hM_153 2 rfl ?_
  subst g1
  refine Ev.iald hM_153 rfl (a := 0) rfl (inb_I b1 bE) ?_
  rw [I_clamp (Nat.lt_of_lt_of_le b1 bE)]
  refine Ev.run (c' := (39, [.ref 0, .ref 1, .ref 27, .ref 37, .int (I j1), u5, u6], [.int ((E.2 j1) &&& (31 : Int32))], hp E w)) hM_153 2 rfl ?_
  rw [c2]
  refine Ev.run (c' := (250, [.ref 0, .ref 1, .ref 27, .ref 37, .int (I j1), u5, u6], [.int ((I j1) + (1 : Int32)), .ref 0, .ref 1], hp E w)) hM_153 6 rfl ?_
  rw [g2]
  refine Ev.iald hM_153 rfl (a := 0) rfl (inb_I b2 bE) ?_
  rw [I_clamp (Nat.lt_of_lt_of_le b2 bE)]
  refine Ev.run (c' := (256, [.ref 0, .ref 1, .ref 27, .ref 37, .int (I j1), u5, u6], [.int ((I j1) + (2 : Int32)), .ref 0, .int (E.2 j2), .ref 1], hp E w)) hM_153 4 rfl ?_
  rw [g3]
  refine Ev.iald hM_153 rfl (a := 0) rfl (inb_I b3 bE) ?_
  rw [I_clamp (Nat.lt_of_lt_of_le b3 bE)]
  refine Ev.run (c' := (262, [.ref 0, .ref 1, .ref 27, .ref 37, .int (I j1), u5, u6], [.int ((I j1) + (3 : Int32)), .ref 0, .int (E.2 j3), .int (E.2 j2), .ref 1], hp E w)) hM_153 4 rfl ?_
  rw [g4]
  refine Ev.iald hM_153 rfl (a := 0) rfl (inb_I b4 bE) ?_
  rw [I_clamp (Nat.lt_of_lt_of_le b4 bE)]
  refine Ev.run (c' := (263, [.ref 0, .ref 1, .ref 27, .ref 37, .int (I j1), u5, u6], [.int (E.2 j4), .int (E.2 j3), .int (E.2 j2), .ref 1], hp E w)) hM_153 0 rfl ?_
  refine Ev.ifT hM_153 rfl (cI_eqT c3) ?_
  refine Ev.run (c' := (272, [.ref 0, .ref 1, .ref 27, .ref 37, .int (I j1), u5, u6], [.ref 37, .int (0 : Int32), .int (E.2 j3), .int (E.2 j2), .ref 1], hp E w)) hM_153 2 rfl ?_
  rw [← a1] at h1
  rw [← a2] at h1
  refine Ev.callR hd hM_153 rfl (y := 141) (as := [.ref 1, .int (E.2 j2), .int (E.2 j3), .int (0 : Int32), .ref 37]) (rest := []) rfl (Nat.le_of_ble_eq_true rfl) h1 ?_
  refine Ev.run (c' := (283, [.ref 0, .ref 1, .ref 27, .ref 37, .int (I j1), .int v1, u6], [.int ((I j1) + (1 : Int32)), .ref 0, .ref 27], hp E w1)) hM_153 6 rfl ?_
  rw [g5]
  refine Ev.iald hM_153 rfl (a := 0) rfl (inb_I b5 bE) ?_
  rw [I_clamp (Nat.lt_of_lt_of_le b5 bE)]
  refine Ev.run (c' := (289, [.ref 0, .ref 1, .ref 27, .ref 37, .int (I j1), .int v1, u6], [.int ((I j1) + (2 : Int32)), .ref 0, .int (E.2 j5), .ref 27], hp E w1)) hM_153 4 rfl ?_
  rw [g6]
  refine Ev.iald hM_153 rfl (a := 0) rfl (inb_I b6 bE) ?_
  rw [I_clamp (Nat.lt_of_lt_of_le b6 bE)]
  refine Ev.run (c' := (295, [.ref 0, .ref 1, .ref 27, .ref 37, .int (I j1), .int v1, u6], [.int ((I j1) + (3 : Int32)), .ref 0, .int (E.2 j6), .int (E.2 j5), .ref 27], hp E w1)) hM_153 4 rfl ?_
  rw [g7]
  refine Ev.iald hM_153 rfl (a := 0) rfl (inb_I b7 bE) ?_
  rw [I_clamp (Nat.lt_of_lt_of_le b7 bE)]
  refine Ev.run (c' := (296, [.ref 0, .ref 1, .ref 27, .ref 37, .int (I j1), .int v1, u6], [.int (E.2 j7), .int (E.2 j6), .int (E.2 j5), .ref 27], hp E w1)) hM_153 0 rfl ?_
  refine Ev.ifT hM_153 rfl (cI_eqT c4) ?_
  refine Ev.run (c' := (304, [.ref 0, .ref 1, .ref 27, .ref 37, .int (I j1), .int v1, u6], [.int (0 : Int32), .int (E.2 j6), .int (E.2 j5), .ref 27], hp E w1)) hM_153 1 rfl ?_
  rw [← a3] at h2
  rw [← a4] at h2
  refine Ev.callR hd hM_153 rfl (y := 107) (as := [.ref 27, .int (E.2 j5), .int (E.2 j6), .int (0 : Int32)]) (rest := []) rfl (Nat.le_of_ble_eq_true rfl) h2 ?_
  refine Ev.run (c' := (310, [.ref 0, .ref 1, .ref 27, .ref 37, .int (I j1), .int v1, .int v2], [.ref 27], hp E w2)) hM_153 2 rfl ?_
  refine Ev.callR hd hM_153 rfl (y := 96) (as := [.ref 27]) (rest := []) rfl (Nat.le_of_ble_eq_true rfl) (Ev.run (c' := (4, [.ref 27], [.int (gF w2 8)], hp E w2)) hM_96 2 rfl (Ev.fin hM_96 rfl rfl)) ?_
  refine Ev.run (c' := (315, [.ref 0, .ref 1, .ref 27, .ref 37, .int (I j1), .int v1, .int v2], [.int v1, .int (gF w2 8)], hp E w2)) hM_153 1 rfl ?_
  refine Ev.icT hM_153 rfl (cI_eqT c5) ?_
  refine Ev.run (c' := (322, [.ref 0, .ref 1, .ref 27, .ref 37, .int (I j1), .int v1, .int v2], [.int v1], hp E w2)) hM_153 1 rfl ?_
  refine Ev.ifT hM_153 rfl (cI_neT c6) ?_
  refine Ev.run (c' := (23, [.ref 0, .ref 1, .ref 27, .ref 37, .int ((I j1) + (5 : Int32)), .int v1, .int v2], [], hp E w2)) hM_153 3 rfl ?_
  exact e
theorem p153_23_43 {E : Nat × (Nat → Int32)} {w : Wd} {d : Nat} {x4 : Int32} {u5 u6 : Value} {o : Ou} {j1 : Nat} {j2 : Nat} {z1 : Int32} {w1 : Wd} {v1 : Int32} {j3 : Nat} {z2 : Int32} {w2 : Wd} {v2 : Int32} {y4 : Int32} (hd : 1 ≤ d) (c1 : ¬ ((I E.1) - (5 : Int32)) < x4) (g1 : x4 = I j1) (b1 : j1 < E.1) (bE : E.1 ≤ 2147483648) (c2 : ((E.2 j1) &&& (31 : Int32)) = (1 : Int32)) (g2 : ((I j1) + (1 : Int32)) = I j2) (b2 : j2 < E.1) (a1 : (E.2 j2) = z1) (h1 : Ev (d - 1) 140 (ent0 140 [.ref 1, .int z1, .ref 37] (hp E w)) (.inl (some (.int v1)), hp E w1)) (g3 : ((I j1) + (1 : Int32)) = I j3) (b3 : j3 < E.1) (a2 : (E.2 j3) = z2) (h2 : Ev (d - 1) 105 (ent0 105 [.ref 27, .int z2] (hp E w1)) (.inl (some (.int v2)), hp E w2)) (c3 : (gF w2 8) = v1) (c4 : v1 = 0) (c5 : (lg_cmp (gO w2) ((v2).toInt64)) = 0) (q4 : ((I j1) + (5 : Int32)) = y4) (e : Ev d 153 (23, [.ref 0, .ref 1, .ref 27, .ref 37, .int y4, .int v1, .int v2], [], hp E w2) o) : Ev d 153 (23, [.ref 0, .ref 1, .ref 27, .ref 37, .int x4, u5, u6], [], hp E w) o := by
  subst q4
  refine Ev.run (c' := (29, [.ref 0, .ref 1, .ref 27, .ref 37, .int x4, u5, u6], [.int ((I E.1) - (5 : Int32)), .int x4], hp E w)) hM_153 5 rfl ?_
  refine Ev.icF hM_153 rfl (cI_gtF c1) ?_
  refine Ev.run (c' := (35, [.ref 0, .ref 1, .ref 27, .ref 37, .int x4, u5, u6], [.int x4, .ref 0], hp E w)) hM_153 2 rfl ?_
  subst g1
  refine Ev.iald hM_153 rfl (a := 0) rfl (inb_I b1 bE) ?_
  rw [I_clamp (Nat.lt_of_lt_of_le b1 bE)]
  refine Ev.run (c' := (39, [.ref 0, .ref 1, .ref 27, .ref 37, .int (I j1), u5, u6], [.int ((E.2 j1) &&& (31 : Int32))], hp E w)) hM_153 2 rfl ?_
  rw [c2]
  refine Ev.run (c' := (194, [.ref 0, .ref 1, .ref 27, .ref 37, .int (I j1), u5, u6], [.int ((I j1) + (1 : Int32)), .ref 0, .ref 1], hp E w)) hM_153 6 rfl ?_
  rw [g2]
  refine Ev.iald hM_153 rfl (a := 0) rfl (inb_I b2 bE) ?_
  rw [I_clamp (Nat.lt_of_lt_of_le b2 bE)]
  refine Ev.run (c' := (196, [.ref 0, .ref 1, .ref 27, .ref 37, .int (I j1), u5, u6], [.ref 37, .int (E.2 j2), .ref 1], hp E w)) hM_153 1 rfl ?_
  rw [← a1] at h1
  refine Ev.callR hd hM_153 rfl (y := 140) (as := [.ref 1, .int (E.2 j2), .ref 37]) (rest := []) rfl (Nat.le_of_ble_eq_true rfl) h1 ?_
  refine Ev.run (c' := (207, [.ref 0, .ref 1, .ref 27, .ref 37, .int (I j1), .int v1, u6], [.int ((I j1) + (1 : Int32)), .ref 0, .ref 27], hp E w1)) hM_153 6 rfl ?_
  rw [g3]
  refine Ev.iald hM_153 rfl (a := 0) rfl (inb_I b3 bE) ?_
  rw [I_clamp (Nat.lt_of_lt_of_le b3 bE)]
  refine Ev.run (c' := (208, [.ref 0, .ref 1, .ref 27, .ref 37, .int (I j1), .int v1, u6], [.int (E.2 j3), .ref 27], hp E w1)) hM_153 0 rfl ?_
  rw [← a2] at h2
  refine Ev.callR hd hM_153 rfl (y := 105) (as := [.ref 27, .int (E.2 j3)]) (rest := []) rfl (Nat.le_of_ble_eq_true rfl) h2 ?_
  refine Ev.run (c' := (214, [.ref 0, .ref 1, .ref 27, .ref 37, .int (I j1), .int v1, .int v2], [.ref 27], hp E w2)) hM_153 2 rfl ?_
  refine Ev.callR hd hM_153 rfl (y := 96) (as := [.ref 27]) (rest := []) rfl (Nat.le_of_ble_eq_true rfl) (Ev.run (c' := (4, [.ref 27], [.int (gF w2 8)], hp E w2)) hM_96 2 rfl (Ev.fin hM_96 rfl rfl)) ?_
  refine Ev.run (c' := (219, [.ref 0, .ref 1, .ref 27, .ref 37, .int (I j1), .int v1, .int v2], [.int v1, .int (gF w2 8)], hp E w2)) hM_153 1 rfl ?_
  refine Ev.icT hM_153 rfl (cI_eqT c3) ?_
  refine Ev.run (c' := (226, [.ref 0, .ref 1, .ref 27, .ref 37, .int (I j1), .int v1, .int v2], [.int v1], hp E w2)) hM_153 1 rfl ?_
  refine Ev.ifF hM_153 rfl (cI_neF c4) ?_
  refine Ev.run (c' := (236, [.ref 0, .ref 1, .ref 27, .ref 37, .int (I j1), .int v1, .int v2], [.int (lg_cmp (gO w2) ((v2).toInt64))], hp E w2)) hM_153 6 rfl ?_
  refine Ev.ifT hM_153 rfl (cI_eqT c5) ?_
  refine Ev.run (c' := (23, [.ref 0, .ref 1, .ref 27, .ref 37, .int ((I j1) + (5 : Int32)), .int v1, .int v2], [], hp E w2)) hM_153 3 rfl ?_
  exact e
theorem p153_23_44 {E : Nat × (Nat → Int32)} {w : Wd} {d : Nat} {x4 : Int32} {u5 u6 : Value} {o : Ou} {j1 : Nat} {j2 : Nat} {z1 : Int32} {w1 : Wd} {v1 : Int32} {j3 : Nat} {z2 : Int32} {w2 : Wd} {v2 : Int32} {y4 : Int32} (hd : 1 ≤ d) (c1 : ¬ ((I E.1) - (5 : Int32)) < x4) (g1 : x4 = I j1) (b1 : j1 < E.1) (bE : E.1 ≤ 2147483648) (c2 : ((E.2 j1) &&& (31 : Int32)) = (1 : Int32)) (g2 : ((I j1) + (1 : Int32)) = I j2) (b2 : j2 < E.1) (a1 : (E.2 j2) = z1) (h1 : Ev (d - 1) 140 (ent0 140 [.ref 1, .int z1, .ref 37] (hp E w)) (.inl (some (.int v1)), hp E w1)) (g3 : ((I j1) + (1 : Int32)) = I j3) (b3 : j3 < E.1) (a2 : (E.2 j3) = z2) (h2 : Ev (d - 1) 105 (ent0 105 [.ref 27, .int z2] (hp E w1)) (.inl (some (.int v2)), hp E w2)) (c3 : (gF w2 8) = v1) (c4 : ¬ v1 = 0) (q4 : ((I j1) + (5 : Int32)) = y4) (e : Ev d 153 (23, [.ref 0, .ref 1, .ref 27, .ref 37, .int y4, .int v1, .int v2], [], hp E w2) o) : Ev d 153 (23, [.ref 0, .ref 1, .ref 27, .ref 37, .int x4, u5, u6], [], hp E w) o := by
  subst q4
  refine Ev.run (c' := (29, [.ref 0, .ref 1, .ref 27, .ref 37, .int x4, u5, u6], [.int ((I E.1) - (5 : Int32)), .int x4], hp E w)) hM_153 5 rfl ?_
  refine Ev.icF hM_153 rfl (cI_gtF c1) ?_
  refine Ev.run (c' := (35, [.ref 0, .ref 1, .ref 27, .ref 37, .int x4, u5, u6], [.int x4, .ref 0], hp E w)) hM_153 2 rfl ?_
  subst g1
  refine Ev.iald hM_153 rfl (a := 0) rfl (inb_I b1 bE) ?_
  rw [I_clamp (Nat.lt_of_lt_of_le b1 bE)]
  refine Ev.run (c' := (39, [.ref 0, .ref 1, .ref 27, .ref 37, .int (I j1), u5, u6], [.int ((E.2 j1) &&& (31 : Int32))], hp E w)) hM_153 2 rfl ?_
  rw [c2]
  refine Ev.run (c' := (194, [.ref 0, .ref 1, .ref 27, .ref 37, .int (I j1), u5, u6], [.int ((I j1) + (1 : Int32)), .ref 0, .ref 1], hp E w)) hM_153 6 rfl ?_
  rw [g2]
  refine Ev.iald hM_153 rfl (a := 0) rfl (inb_I b2 bE) ?_
  rw [I_clamp (Nat.lt_of_lt_of_le b2 bE)]
  refine Ev.run (c' := (196, [.ref 0, .ref 1, .ref 27, .ref 37, .int (I j1), u5, u6], [.ref 37, .int (E.2 j2), .ref 1], hp E w)) hM_153 1 rfl ?_
  rw [← a1] at h1
  refine Ev.callR hd hM_153 rfl (y := 140) (as := [.ref 1, .int (E.2 j2), .ref 37]) (rest := []) rfl (Nat.le_of_ble_eq_true rfl) h1 ?_
  refine Ev.run (c' := (207, [.ref 0, .ref 1, .ref 27, .ref 37, .int (I j1), .int v1, u6], [.int ((I j1) + (1 : Int32)), .ref 0, .ref 27], hp E w1)) hM_153 6 rfl ?_
  rw [g3]
  refine Ev.iald hM_153 rfl (a := 0) rfl (inb_I b3 bE) ?_
  rw [I_clamp (Nat.lt_of_lt_of_le b3 bE)]
  refine Ev.run (c' := (208, [.ref 0, .ref 1, .ref 27, .ref 37, .int (I j1), .int v1, u6], [.int (E.2 j3), .ref 27], hp E w1)) hM_153 0 rfl ?_
  rw [← a2] at h2
  refine Ev.callR hd hM_153 rfl (y := 105) (as := [.ref 27, .int (E.2 j3)]) (rest := []) rfl (Nat.le_of_ble_eq_true rfl) h2 ?_
  refine Ev.run (c' := (214, [.ref 0, .ref 1, .ref 27, .ref 37, .int (I j1), .int v1, .int v2], [.ref 27], hp E w2)) hM_153 2 rfl ?_
  refine Ev.callR hd hM_153 rfl (y := 96) (as := [.ref 27]) (rest := []) rfl (Nat.le_of_ble_eq_true rfl) (Ev.run (c' := (4, [.ref 27], [.int (gF w2 8)], hp E w2)) hM_96 2 rfl (Ev.fin hM_96 rfl rfl)) ?_
  refine Ev.run (c' := (219, [.ref 0, .ref 1, .ref 27, .ref 37, .int (I j1), .int v1, .int v2], [.int v1, .int (gF w2 8)], hp E w2)) hM_153 1 rfl ?_
  refine Ev.icT hM_153 rfl (cI_eqT c3) ?_
  refine Ev.run (c' := (226, [.ref 0, .ref 1, .ref 27, .ref 37, .int (I j1), .int v1, .int v2], [.int v1], hp E w2)) hM_153 1 rfl ?_
  refine Ev.ifT hM_153 rfl (cI_neT c4) ?_
  refine Ev.run (c' := (23, [.ref 0, .ref 1, .ref 27, .ref 37, .int ((I j1) + (5 : Int32)), .int v1, .int v2], [], hp E w2)) hM_153 3 rfl ?_
  exact e
theorem p153_23_45 {E : Nat × (Nat → Int32)} {w : Wd} {d : Nat} {x4 : Int32} {u5 u6 : Value} {o : Ou} {j1 : Nat} {j2 : Nat} {z1 : Int32} {w1 : Wd} {v1 : Int32} {j3 : Nat} {z2 : Int32} {w2 : Wd} {v2 : Int32} {y4 : Int32} (hd : 1 ≤ d) (c1 : ¬ ((I E.1) - (5 : Int32)) < x4) (g1 : x4 = I j1) (b1 : j1 < E.1) (bE : E.1 ≤ 2147483648) (c2 : ((E.2 j1) &&& (31 : Int32)) = (0 : Int32)) (g2 : ((I j1) + (1 : Int32)) = I j2) (b2 : j2 < E.1) (a1 : (E.2 j2) = z1) (h1 : Ev (d - 1) 139 (ent0 139 [.ref 1, .int z1, .ref 37] (hp E w)) (.inl (some (.int v1)), hp E w1)) (g3 : ((I j1) + (1 : Int32)) = I j3) (b3 : j3 < E.1) (a2 : (E.2 j3) = z2) (h2 : Ev (d - 1) 102 (ent0 102 [.ref 27, .int z2] (hp E w1)) (.inl (some (.int v2)), hp E w2)) (c3 : (gF w2 8) = v1) (c4 : v1 = 0) (c5 : (lg_cmp (gO w2) ((v2).toInt64)) = 0) (q4 : ((I j1) + (5 : Int32)) = y4) (e : Ev d 153 (23, [.ref 0, .ref 1, .ref 27, .ref 37, .int y4, .int v1, .int v2], [], hp E w2) o) : Ev d 153 (23, [.ref 0, .ref 1, .ref 27, .ref 37, .int x4, u5, u6], [], hp E w) o := by
  subst q4
  refine Ev.run (c' := (29, [.ref 0, .ref 1, .ref 27, .ref 37, .int x4, u5, u6], [.int ((I E.1) - (5 : Int32)), .int x4], hp E w)) hM_153 5 rfl ?_
  refine Ev.icF hM_153 rfl (cI_gtF c1) ?_
  refine Ev.run (c' := (35, [.ref 0, .ref 1, .ref 27, .ref 37, .int x4, u5, u6], [.int x4, .ref 0], hp E w)) hM_153 2 rfl ?_
  subst g1
  refine Ev.iald hM_153 rfl (a := 0) rfl (inb_I b1 bE) ?_
  rw [I_clamp (Nat.lt_of_lt_of_le b1 bE)]
  refine Ev.run (c' := (39, [.ref 0, .ref 1, .ref 27, .ref 37, .int (I j1), u5, u6], [.int ((E.2 j1) &&& (31 : Int32))], hp E w)) hM_153 2 rfl ?_
  rw [c2]
  refine Ev.run (c' := (138, [.ref 0, .ref 1, .ref 27, .ref 37, .int (I j1), u5, u6], [.int ((I j1) + (1 : Int32)), .ref 0, .ref 1], hp E w)) hM_153 6 rfl ?_
  rw [g2]
  refine Ev.iald hM_153 rfl (a := 0) rfl (inb_I b2 bE) ?_
  rw [I_clamp (Nat.lt_of_lt_of_le b2 bE)]
  refine Ev.run (c' := (140, [.ref 0, .ref 1, .ref 27, .ref 37, .int (I j1), u5, u6], [.ref 37, .int (E.2 j2), .ref 1], hp E w)) hM_153 1 rfl ?_
  rw [← a1] at h1
  refine Ev.callR hd hM_153 rfl (y := 139) (as := [.ref 1, .int (E.2 j2), .ref 37]) (rest := []) rfl (Nat.le_of_ble_eq_true rfl) h1 ?_
  refine Ev.run (c' := (151, [.ref 0, .ref 1, .ref 27, .ref 37, .int (I j1), .int v1, u6], [.int ((I j1) + (1 : Int32)), .ref 0, .ref 27], hp E w1)) hM_153 6 rfl ?_
  rw [g3]
  refine Ev.iald hM_153 rfl (a := 0) rfl (inb_I b3 bE) ?_
  rw [I_clamp (Nat.lt_of_lt_of_le b3 bE)]
  refine Ev.run (c' := (152, [.ref 0, .ref 1, .ref 27, .ref 37, .int (I j1), .int v1, u6], [.int (E.2 j3), .ref 27], hp E w1)) hM_153 0 rfl ?_
  rw [← a2] at h2
  refine Ev.callR hd hM_153 rfl (y := 102) (as := [.ref 27, .int (E.2 j3)]) (rest := []) rfl (Nat.le_of_ble_eq_true rfl) h2 ?_
  refine Ev.run (c' := (158, [.ref 0, .ref 1, .ref 27, .ref 37, .int (I j1), .int v1, .int v2], [.ref 27], hp E w2)) hM_153 2 rfl ?_
  refine Ev.callR hd hM_153 rfl (y := 96) (as := [.ref 27]) (rest := []) rfl (Nat.le_of_ble_eq_true rfl) (Ev.run (c' := (4, [.ref 27], [.int (gF w2 8)], hp E w2)) hM_96 2 rfl (Ev.fin hM_96 rfl rfl)) ?_
  refine Ev.run (c' := (163, [.ref 0, .ref 1, .ref 27, .ref 37, .int (I j1), .int v1, .int v2], [.int v1, .int (gF w2 8)], hp E w2)) hM_153 1 rfl ?_
  refine Ev.icT hM_153 rfl (cI_eqT c3) ?_
  refine Ev.run (c' := (170, [.ref 0, .ref 1, .ref 27, .ref 37, .int (I j1), .int v1, .int v2], [.int v1], hp E w2)) hM_153 1 rfl ?_
  refine Ev.ifF hM_153 rfl (cI_neF c4) ?_
  refine Ev.run (c' := (180, [.ref 0, .ref 1, .ref 27, .ref 37, .int (I j1), .int v1, .int v2], [.int (lg_cmp (gO w2) ((v2).toInt64))], hp E w2)) hM_153 6 rfl ?_
  refine Ev.ifT hM_153 rfl (cI_eqT c5) ?_
  refine Ev.run (c' := (23, [.ref 0, .ref 1, .ref 27, .ref 37, .int ((I j1) + (5 : Int32)), .int v1, .int v2], [], hp E w2)) hM_153 3 rfl ?_
  exact e
theorem p153_23_46 {E : Nat × (Nat → Int32)} {w : Wd} {d : Nat} {x4 : Int32} {u5 u6 : Value} {o : Ou} {j1 : Nat} {j2 : Nat} {z1 : Int32} {w1 : Wd} {v1 : Int32} {j3 : Nat} {z2 : Int32} {w2 : Wd} {v2 : Int32} {y4 : Int32} (hd : 1 ≤ d) (c1 : ¬ ((I E.1) - (5 : Int32)) < x4) (g1 : x4 = I j1) (b1 : j1 < E.1) (bE : E.1 ≤ 2147483648) (c2 : ((E.2 j1) &&& (31 : Int32)) = (0 : Int32)) (g2 : ((I j1) + (1 : Int32)) = I j2) (b2 : j2 < E.1) (a1 : (E.2 j2) = z1) (h1 : Ev (d - 1) 139 (ent0 139 [.ref 1, .int z1, .ref 37] (hp E w)) (.inl (some (.int v1)), hp E w1)) (g3 : ((I j1) + (1 : Int32)) = I j3) (b3 : j3 < E.1) (a2 : (E.2 j3) = z2) (h2 : Ev (d - 1) 102 (ent0 102 [.ref 27, .int z2] (hp E w1)) (.inl (some (.int v2)), hp E w2)) (c3 : (gF w2 8) = v1) (c4 : ¬ v1 = 0) (q4 : ((I j1) + (5 : Int32)) = y4) (e : Ev d 153 (23, [.ref 0, .ref 1, .ref 27, .ref 37, .int y4, .int v1, .int v2], [], hp E w2) o) : Ev d 153 (23, [.ref 0, .ref 1, .ref 27, .ref 37, .int x4, u5, u6], [], hp E w) o := by
  subst q4
  refine Ev.run (c' := (29, [.ref 0, .ref 1, .ref 27, .ref 37, .int x4, u5, u6], [.int ((I E.1) - (5 : Int32)), .int x4], hp E w)) hM_153 5 rfl ?_
  refine Ev.icF hM_153 rfl (cI_gtF c1) ?_
  refine Ev.run (c' := (35, [.ref 0, .ref 1, .ref 27, .ref 37, .int x4, u5, u6], [.int x4, .ref 0], hp E w)) hM_153 2 rfl ?_
  subst g1
  refine Ev.iald hM_153 rfl (a := 0) rfl (inb_I b1 bE) ?_
  rw [I_clamp (Nat.lt_of_lt_of_le b1 bE)]
  refine Ev.run (c' := (39, [.ref 0, .ref 1, .ref 27, .ref 37, .int (I j1), u5, u6], [.int ((E.2 j1) &&& (31 : Int32))], hp E w)) hM_153 2 rfl ?_
  rw [c2]
  refine Ev.run (c' := (138, [.ref 0, .ref 1, .ref 27, .ref 37, .int (I j1), u5, u6], [.int ((I j1) + (1 : Int32)), .ref 0, .ref 1], hp E w)) hM_153 6 rfl ?_
  rw [g2]
  refine Ev.iald hM_153 rfl (a := 0) rfl (inb_I b2 bE) ?_
  rw [I_clamp (Nat.lt_of_lt_of_le b2 bE)]
  refine Ev.run (c' := (140, [.ref 0, .ref 1, .ref 27, .ref 37, .int (I j1), u5, u6], [.ref 37, .int (E.2 j2), .ref 1], hp E w)) hM_153 1 rfl ?_
  rw [← a1] at h1
  refine Ev.callR hd hM_153 rfl (y := 139) (as := [.ref 1, .int (E.2 j2), .ref 37]) (rest := []) rfl (Nat.le_of_ble_eq_true rfl) h1 ?_
  refine Ev.run (c' := (151, [.ref 0, .ref 1, .ref 27, .ref 37, .int (I j1), .int v1, u6], [.int ((I j1) + (1 : Int32)), .ref 0, .ref 27], hp E w1)) hM_153 6 rfl ?_
  rw [g3]
  refine Ev.iald hM_153 rfl (a := 0) rfl (inb_I b3 bE) ?_
  rw [I_clamp (Nat.lt_of_lt_of_le b3 bE)]
  refine Ev.run (c' := (152, [.ref 0, .ref 1, .ref 27, .ref 37, .int (I j1), .int v1, u6], [.int (E.2 j3), .ref 27], hp E w1)) hM_153 0 rfl ?_
  rw [← a2] at h2
  refine Ev.callR hd hM_153 rfl (y := 102) (as := [.ref 27, .int (E.2 j3)]) (rest := []) rfl (Nat.le_of_ble_eq_true rfl) h2 ?_
  refine Ev.run (c' := (158, [.ref 0, .ref 1, .ref 27, .ref 37, .int (I j1), .int v1, .int v2], [.ref 27], hp E w2)) hM_153 2 rfl ?_
  refine Ev.callR hd hM_153 rfl (y := 96) (as := [.ref 27]) (rest := []) rfl (Nat.le_of_ble_eq_true rfl) (Ev.run (c' := (4, [.ref 27], [.int (gF w2 8)], hp E w2)) hM_96 2 rfl (Ev.fin hM_96 rfl rfl)) ?_
  refine Ev.run (c' := (163, [.ref 0, .ref 1, .ref 27, .ref 37, .int (I j1), .int v1, .int v2], [.int v1, .int (gF w2 8)], hp E w2)) hM_153 1 rfl ?_
  refine Ev.icT hM_153 rfl (cI_eqT c3) ?_
  refine Ev.run (c' := (170, [.ref 0, .ref 1, .ref 27, .ref 37, .int (I j1), .int v1, .int v2], [.int v1], hp E w2)) hM_153 1 rfl ?_
  refine Ev.ifT hM_153 rfl (cI_neT c4) ?_
  refine Ev.run (c' := (23, [.ref 0, .ref 1, .ref 27, .ref 37, .int ((I j1) + (5 : Int32)), .int v1, .int v2], [], hp E w2)) hM_153 3 rfl ?_
  exact e
theorem p153_23_47 {E : Nat × (Nat → Int32)} {w : Wd} {d : Nat} {x4 : Int32} {u5 u6 : Value}  (c1 : ((I E.1) - (5 : Int32)) < x4) : Ev d 153 (23, [.ref 0, .ref 1, .ref 27, .ref 37, .int x4, u5, u6], [], hp E w) (.inl (some (.int (1 : Int32))), hp E w) := by
  refine Ev.run (c' := (29, [.ref 0, .ref 1, .ref 27, .ref 37, .int x4, u5, u6], [.int ((I E.1) - (5 : Int32)), .int x4], hp E w)) hM_153 5 rfl ?_
  refine Ev.icT hM_153 rfl (cI_gtT c1) ?_
  refine Ev.run (c' := (1151, [.ref 0, .ref 1, .ref 27, .ref 37, .int x4, u5, u6], [.int (1 : Int32)], hp E w)) hM_153 1 rfl ?_
  exact Ev.fin hM_153 rfl rfl
end
