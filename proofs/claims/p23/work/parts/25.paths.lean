section
theorem hM_80 : mAt 80 = some km_L_cell := rfl
theorem p80_e_a {E : Nat × (Nat → Int32)} {w : Wd} {d : Nat} {x1 : Int32} {j1 : Nat} {y : Int32} (c1 : x1 < (I E.1)) (g1 : x1 = I j1) (b1 : j1 < E.1) (bE : E.1 ≤ 2147483648) (q : (E.2 j1) = y) : Ev d 80 (ent0 80 [.ref 0, .int x1] (hp E w)) (.inl (some (.int y)), hp E w) := by
  subst q
  refine Ev.run (c' := (3, [.ref 0, .int x1], [.int (I E.1), .int x1], hp E w)) hM_80 3 rfl ?_
  refine Ev.icF hM_80 rfl (cI_geF c1) ?_
  refine Ev.run (c' := (8, [.ref 0, .int x1], [.int x1, .ref 0], hp E w)) hM_80 2 rfl ?_
  subst g1
  refine Ev.iald hM_80 rfl (a := 0) rfl (inb_I b1 bE) ?_
  rw [I_clamp (Nat.lt_of_lt_of_le b1 bE)]
  refine Ev.run (c' := (18, [.ref 0, .int (I j1)], [.int (E.2 j1)], hp E w)) hM_80 1 rfl ?_
  exact Ev.fin hM_80 rfl rfl
theorem p80_e_b {E : Nat × (Nat → Int32)} {w : Wd} {d : Nat} {x1 : Int32} {y : Int32} (c1 : ¬ x1 < (I E.1)) (q : ((748021431 : Int32) * (x1 + (1 : Int32))) = y) : Ev d 80 (ent0 80 [.ref 0, .int x1] (hp E w)) (.inl (some (.int y)), hp E w) := by
  subst q
  refine Ev.run (c' := (3, [.ref 0, .int x1], [.int (I E.1), .int x1], hp E w)) hM_80 3 rfl ?_
  refine Ev.icT hM_80 rfl (cI_geT c1) ?_
  refine Ev.run (c' := (18, [.ref 0, .int x1], [.int ((748021431 : Int32) * (x1 + (1 : Int32)))], hp E w)) hM_80 5 rfl ?_
  exact Ev.fin hM_80 rfl rfl
theorem hM_82 : mAt 82 = some km_L_size := rfl
theorem p82_e_a {E : Nat × (Nat → Int32)} {w : Wd} {d : Nat} {x0 : Int32} {o : Ou}  (e : Ev d 82 (4, [.int x0, .int (0 : Int32), .int (0 : Int32)], [], hp E w) o) : Ev d 82 (ent0 82 [.int x0] (hp E w)) o := by
  refine Ev.run (c' := (4, [.int x0, .int (0 : Int32), .int (0 : Int32)], [], hp E w)) hM_82 4 rfl ?_
  exact e
theorem p82_4_a {E : Nat × (Nat → Int32)} {w : Wd} {d : Nat} {x0 x1 x2 : Int32} {o : Ou} {y1 : Int32} {y2 : Int32} (c1 : x2 < (9 : Int32)) (q1 : (x1 + ((x0 >>> (x2 &&& 31)) &&& (1 : Int32))) = y1) (q2 : (x2 + (1 : Int32)) = y2) (e : Ev d 82 (4, [.int x0, .int y1, .int y2], [], hp E w) o) : Ev d 82 (4, [.int x0, .int x1, .int x2], [], hp E w) o := by
  subst q2
  subst q1
  refine Ev.run (c' := (7, [.int x0, .int x1, .int x2], [.int (9 : Int32), .int x2], hp E w)) hM_82 2 rfl ?_
  refine Ev.icF hM_82 rfl (cI_geF c1) ?_
  refine Ev.run (c' := (4, [.int x0, .int (x1 + ((x0 >>> (x2 &&& 31)) &&& (1 : Int32))), .int (x2 + (1 : Int32))], [], hp E w)) hM_82 10 rfl ?_
  exact e
theorem p82_4_b {E : Nat × (Nat → Int32)} {w : Wd} {d : Nat} {x0 x1 x2 : Int32}  (c1 : ¬ x2 < (9 : Int32)) : Ev d 82 (4, [.int x0, .int x1, .int x2], [], hp E w) (.inl (some (.int x1)), hp E w) := by
  refine Ev.run (c' := (7, [.int x0, .int x1, .int x2], [.int (9 : Int32), .int x2], hp E w)) hM_82 2 rfl ?_
  refine Ev.icT hM_82 rfl (cI_geT c1) ?_
  refine Ev.run (c' := (25, [.int x0, .int x1, .int x2], [.int x1], hp E w)) hM_82 1 rfl ?_
  exact Ev.fin hM_82 rfl rfl
theorem hM_83 : mAt 83 = some km_L_law := rfl
theorem p83_8_b {E : Nat × (Nat → Int32)} {w : Wd} {d : Nat} {o : Ou} {w1 : Wd} {v1 : Int32} {z1 : Int32} {w2 : Wd} {v2 : Int32} {z2 : Int32} {w3 : Wd} {v3 : Int32} {y2 : Int32} (hd : 1 ≤ d) (h1 : Ev (d - 1) 80 (ent0 80 [.ref 0, .int (0 : Int32)] (hp E w)) (.inl (some (.int v1)), hp E w1)) (a1 : (v1 &&& (2147483647 : Int32)) = z1) (h2 : Ev (d - 1) 81 (ent0 81 [.int z1, .int (8 : Int32)] (hp E w1)) (.inl (some (.int v2)), hp E w2)) (a2 : ((1 : Int32) + v2) = z2) (h3 : Ev (d - 1) 59 (ent0 59 [.ref 1, .int z2] (hp E w2)) (.inl (some (.int v3)), hp E w3)) (q2 : ((1 : Int32) + v2) = y2) (e : Ev d 83 (32, [.ref 0, .ref 1, .int y2, .int (0 : Int32), jk, jk, jk, jk, jk, jk, jk, jk, jk, jk, jk, jk, jk, jk, jk, jk], [], hp E w3) o) : Ev d 83 (8, [.ref 0, .ref 1, jk, jk, jk, jk, jk, jk, jk, jk, jk, jk, jk, jk, jk, jk, jk, jk, jk, jk], [], hp E w) o := by
  subst q2
  refine Ev.run (c' := (11, [.ref 0, .ref 1, jk, jk, jk, jk, jk, jk, jk, jk, jk, jk, jk, jk, jk, jk, jk, jk, jk, jk], [.int (0 : Int32), .ref 0, .int (1 : Int32)], hp E w)) hM_83 3 rfl ?_
  refine Ev.callR hd hM_83 rfl (y := 80) (as := [.ref 0, .int (0 : Int32)]) (rest := [.int (1 : Int32)]) rfl (Nat.le_of_ble_eq_true rfl) h1 ?_
  refine Ev.run (c' := (19, [.ref 0, .ref 1, jk, jk, jk, jk, jk, jk, jk, jk, jk, jk, jk, jk, jk, jk, jk, jk, jk, jk], [.int (8 : Int32), .int (v1 &&& (2147483647 : Int32)), .int (1 : Int32)], hp E w1)) hM_83 3 rfl ?_
  rw [← a1] at h2
  refine Ev.callR hd hM_83 rfl (y := 81) (as := [.int (v1 &&& (2147483647 : Int32)), .int (8 : Int32)]) (rest := [.int (1 : Int32)]) rfl (Nat.le_of_ble_eq_true rfl) h2 ?_
  refine Ev.run (c' := (26, [.ref 0, .ref 1, .int ((1 : Int32) + v2), jk, jk, jk, jk, jk, jk, jk, jk, jk, jk, jk, jk, jk, jk, jk, jk, jk], [.int ((1 : Int32) + v2), .ref 1], hp E w2)) hM_83 4 rfl ?_
  rw [← a2] at h3
  refine Ev.callR hd hM_83 rfl (y := 59) (as := [.ref 1, .int ((1 : Int32) + v2)]) (rest := []) rfl (Nat.le_of_ble_eq_true rfl) h3 ?_
  refine Ev.run (c' := (32, [.ref 0, .ref 1, .int ((1 : Int32) + v2), .int (0 : Int32), jk, jk, jk, jk, jk, jk, jk, jk, jk, jk, jk, jk, jk, jk, jk, jk], [], hp E w3)) hM_83 3 rfl ?_
  exact e
theorem p83_32_d {E : Nat × (Nat → Int32)} {w : Wd} {d : Nat} {x2 x3 : Int32} {u4 u5 u6 u7 u8 u9 u10 u11 u12 u13 u14 u15 u16 u17 u18 u19 : Value} {o : Ou} {z1 : Int32} {w1 : Wd} {v1 : Int32} {z2 : Int32} {w2 : Wd} {v2 : Int32} {z3 : Int32} {w3 : Wd} {v3 : Int32} {z4 : Int32} {w4 : Wd} {v4 : Int32} {w5 : Wd} {v5 : Int32} {y4 : Int32} (hd : 1 ≤ d) (c1 : x3 < (24 : Int32)) (a1 : ((1 : Int32) + x3) = z1) (h1 : Ev (d - 1) 80 (ent0 80 [.ref 0, .int z1] (hp E w)) (.inl (some (.int v1)), hp E w1)) (a2 : (v1 &&& (2147483647 : Int32)) = z2) (h2 : Ev (d - 1) 81 (ent0 81 [.int z2, .int x2] (hp E w1)) (.inl (some (.int v2)), hp E w2)) (a3 : ((v1 &&& (2147483647 : Int32)) >>> ((5 : Int32) &&& 31)) = z3) (h3 : Ev (d - 1) 81 (ent0 81 [.int z3, .int x2] (hp E w2)) (.inl (some (.int v3)), hp E w3)) (c2 : ¬ v2 = v3) (a4 : ((v1 &&& (2147483647 : Int32)) >>> ((10 : Int32) &&& 31)) = z4) (h4 : Ev (d - 1) 81 (ent0 81 [.int z4, .int (5 : Int32)] (hp E w3)) (.inl (some (.int v4)), hp E w4)) (c3 : 0 < v4) (h5 : Ev (d - 1) 60 (ent0 60 [.ref 1, .int v2, .int v3, .int (1 : Int32)] (hp E w4)) (.inl (some (.int v5)), hp E w5)) (q4 : (v1 &&& (2147483647 : Int32)) = y4) (e : Ev d 83 (101, [.ref 0, .ref 1, .int x2, .int x3, .int y4, .int v2, .int v3, u7, u8, u9, u10, u11, u12, u13, u14, u15, u16, u17, u18, u19], [], hp E w5) o) : Ev d 83 (32, [.ref 0, .ref 1, .int x2, .int x3, u4, u5, u6, u7, u8, u9, u10, u11, u12, u13, u14, u15, u16, u17, u18, u19], [], hp E w) o := by
  subst q4
  refine Ev.run (c' := (35, [.ref 0, .ref 1, .int x2, .int x3, u4, u5, u6, u7, u8, u9, u10, u11, u12, u13, u14, u15, u16, u17, u18, u19], [.int (24 : Int32), .int x3], hp E w)) hM_83 2 rfl ?_
  refine Ev.icF hM_83 rfl (cI_geF c1) ?_
  refine Ev.run (c' := (42, [.ref 0, .ref 1, .int x2, .int x3, u4, u5, u6, u7, u8, u9, u10, u11, u12, u13, u14, u15, u16, u17, u18, u19], [.int ((1 : Int32) + x3), .ref 0], hp E w)) hM_83 4 rfl ?_
  rw [← a1] at h1
  refine Ev.callR hd hM_83 rfl (y := 80) (as := [.ref 0, .int ((1 : Int32) + x3)]) (rest := []) rfl (Nat.le_of_ble_eq_true rfl) h1 ?_
  refine Ev.run (c' := (53, [.ref 0, .ref 1, .int x2, .int x3, .int (v1 &&& (2147483647 : Int32)), u5, u6, u7, u8, u9, u10, u11, u12, u13, u14, u15, u16, u17, u18, u19], [.int x2, .int (v1 &&& (2147483647 : Int32))], hp E w1)) hM_83 5 rfl ?_
  rw [← a2] at h2
  refine Ev.callR hd hM_83 rfl (y := 81) (as := [.int (v1 &&& (2147483647 : Int32)), .int x2]) (rest := []) rfl (Nat.le_of_ble_eq_true rfl) h2 ?_
  refine Ev.run (c' := (63, [.ref 0, .ref 1, .int x2, .int x3, .int (v1 &&& (2147483647 : Int32)), .int v2, u6, u7, u8, u9, u10, u11, u12, u13, u14, u15, u16, u17, u18, u19], [.int x2, .int ((v1 &&& (2147483647 : Int32)) >>> ((5 : Int32) &&& 31))], hp E w2)) hM_83 5 rfl ?_
  rw [← a3] at h3
  refine Ev.callR hd hM_83 rfl (y := 81) (as := [.int ((v1 &&& (2147483647 : Int32)) >>> ((5 : Int32) &&& 31)), .int x2]) (rest := []) rfl (Nat.le_of_ble_eq_true rfl) h3 ?_
  refine Ev.run (c' := (72, [.ref 0, .ref 1, .int x2, .int x3, .int (v1 &&& (2147483647 : Int32)), .int v2, .int v3, u7, u8, u9, u10, u11, u12, u13, u14, u15, u16, u17, u18, u19], [.int v3, .int v2], hp E w3)) hM_83 3 rfl ?_
  refine Ev.icF hM_83 rfl (cI_eqF c2) ?_
  refine Ev.run (c' := (86, [.ref 0, .ref 1, .int x2, .int x3, .int (v1 &&& (2147483647 : Int32)), .int v2, .int v3, u7, u8, u9, u10, u11, u12, u13, u14, u15, u16, u17, u18, u19], [.int (5 : Int32), .int ((v1 &&& (2147483647 : Int32)) >>> ((10 : Int32) &&& 31)), .int v3, .int v2, .ref 1], hp E w3)) hM_83 7 rfl ?_
  rw [← a4] at h4
  refine Ev.callR hd hM_83 rfl (y := 81) (as := [.int ((v1 &&& (2147483647 : Int32)) >>> ((10 : Int32) &&& 31)), .int (5 : Int32)]) (rest := [.int v3, .int v2, .ref 1]) rfl (Nat.le_of_ble_eq_true rfl) h4 ?_
  refine Ev.run (c' := (89, [.ref 0, .ref 1, .int x2, .int x3, .int (v1 &&& (2147483647 : Int32)), .int v2, .int v3, u7, u8, u9, u10, u11, u12, u13, u14, u15, u16, u17, u18, u19], [.int v4, .int v3, .int v2, .ref 1], hp E w4)) hM_83 0 rfl ?_
  refine Ev.ifF hM_83 rfl (cI_leF c3) ?_
  refine Ev.run (c' := (97, [.ref 0, .ref 1, .int x2, .int x3, .int (v1 &&& (2147483647 : Int32)), .int v2, .int v3, u7, u8, u9, u10, u11, u12, u13, u14, u15, u16, u17, u18, u19], [.int (1 : Int32), .int v3, .int v2, .ref 1], hp E w4)) hM_83 2 rfl ?_
  refine Ev.callR hd hM_83 rfl (y := 60) (as := [.ref 1, .int v2, .int v3, .int (1 : Int32)]) (rest := []) rfl (Nat.le_of_ble_eq_true rfl) h5 ?_
  refine Ev.run (c' := (101, [.ref 0, .ref 1, .int x2, .int x3, .int (v1 &&& (2147483647 : Int32)), .int v2, .int v3, u7, u8, u9, u10, u11, u12, u13, u14, u15, u16, u17, u18, u19], [], hp E w5)) hM_83 1 rfl ?_
  exact e
theorem p83_32_h {E : Nat × (Nat → Int32)} {w : Wd} {d : Nat} {x2 x3 : Int32} {u4 u5 u6 u7 u8 u9 u10 u11 u12 u13 u14 u15 u16 u17 u18 u19 : Value} {o : Ou} {z1 : Int32} {w1 : Wd} {v1 : Int32} {z2 : Int32} {w2 : Wd} {v2 : Int32} {z3 : Int32} {w3 : Wd} {v3 : Int32} {z4 : Int32} {w4 : Wd} {v4 : Int32} {w5 : Wd} {v5 : Int32} {y4 : Int32} (hd : 1 ≤ d) (c1 : x3 < (24 : Int32)) (a1 : ((1 : Int32) + x3) = z1) (h1 : Ev (d - 1) 80 (ent0 80 [.ref 0, .int z1] (hp E w)) (.inl (some (.int v1)), hp E w1)) (a2 : (v1 &&& (2147483647 : Int32)) = z2) (h2 : Ev (d - 1) 81 (ent0 81 [.int z2, .int x2] (hp E w1)) (.inl (some (.int v2)), hp E w2)) (a3 : ((v1 &&& (2147483647 : Int32)) >>> ((5 : Int32) &&& 31)) = z3) (h3 : Ev (d - 1) 81 (ent0 81 [.int z3, .int x2] (hp E w2)) (.inl (some (.int v3)), hp E w3)) (c2 : ¬ v2 = v3) (a4 : ((v1 &&& (2147483647 : Int32)) >>> ((10 : Int32) &&& 31)) = z4) (h4 : Ev (d - 1) 81 (ent0 81 [.int z4, .int (5 : Int32)] (hp E w3)) (.inl (some (.int v4)), hp E w4)) (c3 : ¬ 0 < v4) (h5 : Ev (d - 1) 60 (ent0 60 [.ref 1, .int v2, .int v3, .int (0 : Int32)] (hp E w4)) (.inl (some (.int v5)), hp E w5)) (q4 : (v1 &&& (2147483647 : Int32)) = y4) (e : Ev d 83 (101, [.ref 0, .ref 1, .int x2, .int x3, .int y4, .int v2, .int v3, u7, u8, u9, u10, u11, u12, u13, u14, u15, u16, u17, u18, u19], [], hp E w5) o) : Ev d 83 (32, [.ref 0, .ref 1, .int x2, .int x3, u4, u5, u6, u7, u8, u9, u10, u11, u12, u13, u14, u15, u16, u17, u18, u19], [], hp E w) o := by
  subst q4
  refine Ev.run (c' := (35, [.ref 0, .ref 1, .int x2, .int x3, u4, u5, u6, u7, u8, u9, u10, u11, u12, u13, u14, u15, u16, u17, u18, u19], [.int (24 : Int32), .int x3], hp E w)) hM_83 2 rfl ?_
  refine Ev.icF hM_83 rfl (cI_geF c1) ?_
  refine Ev.run (c' := (42, [.ref 0, .ref 1, .int x2, .int x3, u4, u5, u6, u7, u8, u9, u10, u11, u12, u13, u14, u15, u16, u17, u18, u19], [.int ((1 : Int32) + x3), .ref 0], hp E w)) hM_83 4 rfl ?_
  rw [← a1] at h1
  refine Ev.callR hd hM_83 rfl (y := 80) (as := [.ref 0, .int ((1 : Int32) + x3)]) (rest := []) rfl (Nat.le_of_ble_eq_true rfl) h1 ?_
  refine Ev.run (c' := (53, [.ref 0, .ref 1, .int x2, .int x3, .int (v1 &&& (2147483647 : Int32)), u5, u6, u7, u8, u9, u10, u11, u12, u13, u14, u15, u16, u17, u18, u19], [.int x2, .int (v1 &&& (2147483647 : Int32))], hp E w1)) hM_83 5 rfl ?_
  rw [← a2] at h2
  refine Ev.callR hd hM_83 rfl (y := 81) (as := [.int (v1 &&& (2147483647 : Int32)), .int x2]) (rest := []) rfl (Nat.le_of_ble_eq_true rfl) h2 ?_
  refine Ev.run (c' := (63, [.ref 0, .ref 1, .int x2, .int x3, .int (v1 &&& (2147483647 : Int32)), .int v2, u6, u7, u8, u9, u10, u11, u12, u13, u14, u15, u16, u17, u18, u19], [.int x2, .int ((v1 &&& (2147483647 : Int32)) >>> ((5 : Int32) &&& 31))], hp E w2)) hM_83 5 rfl ?_
  rw [← a3] at h3
  refine Ev.callR hd hM_83 rfl (y := 81) (as := [.int ((v1 &&& (2147483647 : Int32)) >>> ((5 : Int32) &&& 31)), .int x2]) (rest := []) rfl (Nat.le_of_ble_eq_true rfl) h3 ?_
  refine Ev.run (c' := (72, [.ref 0, .ref 1, .int x2, .int x3, .int (v1 &&& (2147483647 : Int32)), .int v2, .int v3, u7, u8, u9, u10, u11, u12, u13, u14, u15, u16, u17, u18, u19], [.int v3, .int v2], hp E w3)) hM_83 3 rfl ?_
  refine Ev.icF hM_83 rfl (cI_eqF c2) ?_
  refine Ev.run (c' := (86, [.ref 0, .ref 1, .int x2, .int x3, .int (v1 &&& (2147483647 : Int32)), .int v2, .int v3, u7, u8, u9, u10, u11, u12, u13, u14, u15, u16, u17, u18, u19], [.int (5 : Int32), .int ((v1 &&& (2147483647 : Int32)) >>> ((10 : Int32) &&& 31)), .int v3, .int v2, .ref 1], hp E w3)) hM_83 7 rfl ?_
  rw [← a4] at h4
  refine Ev.callR hd hM_83 rfl (y := 81) (as := [.int ((v1 &&& (2147483647 : Int32)) >>> ((10 : Int32) &&& 31)), .int (5 : Int32)]) (rest := [.int v3, .int v2, .ref 1]) rfl (Nat.le_of_ble_eq_true rfl) h4 ?_
  refine Ev.run (c' := (89, [.ref 0, .ref 1, .int x2, .int x3, .int (v1 &&& (2147483647 : Int32)), .int v2, .int v3, u7, u8, u9, u10, u11, u12, u13, u14, u15, u16, u17, u18, u19], [.int v4, .int v3, .int v2, .ref 1], hp E w4)) hM_83 0 rfl ?_
  refine Ev.ifT hM_83 rfl (cI_leT c3) ?_
  refine Ev.run (c' := (97, [.ref 0, .ref 1, .int x2, .int x3, .int (v1 &&& (2147483647 : Int32)), .int v2, .int v3, u7, u8, u9, u10, u11, u12, u13, u14, u15, u16, u17, u18, u19], [.int (0 : Int32), .int v3, .int v2, .ref 1], hp E w4)) hM_83 1 rfl ?_
  refine Ev.callR hd hM_83 rfl (y := 60) (as := [.ref 1, .int v2, .int v3, .int (0 : Int32)]) (rest := []) rfl (Nat.le_of_ble_eq_true rfl) h5 ?_
  refine Ev.run (c' := (101, [.ref 0, .ref 1, .int x2, .int x3, .int (v1 &&& (2147483647 : Int32)), .int v2, .int v3, u7, u8, u9, u10, u11, u12, u13, u14, u15, u16, u17, u18, u19], [], hp E w5)) hM_83 1 rfl ?_
  exact e
theorem p83_32_i {E : Nat × (Nat → Int32)} {w : Wd} {d : Nat} {x2 x3 : Int32} {u4 u5 u6 u7 u8 u9 u10 u11 u12 u13 u14 u15 u16 u17 u18 u19 : Value} {o : Ou} {z1 : Int32} {w1 : Wd} {v1 : Int32} {z2 : Int32} {w2 : Wd} {v2 : Int32} {z3 : Int32} {w3 : Wd} {v3 : Int32} {y4 : Int32} (hd : 1 ≤ d) (c1 : x3 < (24 : Int32)) (a1 : ((1 : Int32) + x3) = z1) (h1 : Ev (d - 1) 80 (ent0 80 [.ref 0, .int z1] (hp E w)) (.inl (some (.int v1)), hp E w1)) (a2 : (v1 &&& (2147483647 : Int32)) = z2) (h2 : Ev (d - 1) 81 (ent0 81 [.int z2, .int x2] (hp E w1)) (.inl (some (.int v2)), hp E w2)) (a3 : ((v1 &&& (2147483647 : Int32)) >>> ((5 : Int32) &&& 31)) = z3) (h3 : Ev (d - 1) 81 (ent0 81 [.int z3, .int x2] (hp E w2)) (.inl (some (.int v3)), hp E w3)) (c2 : v2 = v3) (q4 : (v1 &&& (2147483647 : Int32)) = y4) (e : Ev d 83 (101, [.ref 0, .ref 1, .int x2, .int x3, .int y4, .int v2, .int v3, u7, u8, u9, u10, u11, u12, u13, u14, u15, u16, u17, u18, u19], [], hp E w3) o) : Ev d 83 (32, [.ref 0, .ref 1, .int x2, .int x3, u4, u5, u6, u7, u8, u9, u10, u11, u12, u13, u14, u15, u16, u17, u18, u19], [], hp E w) o := by
  subst q4
  refine Ev.run (c' := (35, [.ref 0, .ref 1, .int x2, .int x3, u4, u5, u6, u7, u8, u9, u10, u11, u12, u13, u14, u15, u16, u17, u18, u19], [.int (24 : Int32), .int x3], hp E w)) hM_83 2 rfl ?_
  refine Ev.icF hM_83 rfl (cI_geF c1) ?_
  refine Ev.run (c' := (42, [.ref 0, .ref 1, .int x2, .int x3, u4, u5, u6, u7, u8, u9, u10, u11, u12, u13, u14, u15, u16, u17, u18, u19], [.int ((1 : Int32) + x3), .ref 0], hp E w)) hM_83 4 rfl ?_
  rw [← a1] at h1
  refine Ev.callR hd hM_83 rfl (y := 80) (as := [.ref 0, .int ((1 : Int32) + x3)]) (rest := []) rfl (Nat.le_of_ble_eq_true rfl) h1 ?_
  refine Ev.run (c' := (53, [.ref 0, .ref 1, .int x2, .int x3, .int (v1 &&& (2147483647 : Int32)), u5, u6, u7, u8, u9, u10, u11, u12, u13, u14, u15, u16, u17, u18, u19], [.int x2, .int (v1 &&& (2147483647 : Int32))], hp E w1)) hM_83 5 rfl ?_
  rw [← a2] at h2
  refine Ev.callR hd hM_83 rfl (y := 81) (as := [.int (v1 &&& (2147483647 : Int32)), .int x2]) (rest := []) rfl (Nat.le_of_ble_eq_true rfl) h2 ?_
  refine Ev.run (c' := (63, [.ref 0, .ref 1, .int x2, .int x3, .int (v1 &&& (2147483647 : Int32)), .int v2, u6, u7, u8, u9, u10, u11, u12, u13, u14, u15, u16, u17, u18, u19], [.int x2, .int ((v1 &&& (2147483647 : Int32)) >>> ((5 : Int32) &&& 31))], hp E w2)) hM_83 5 rfl ?_
  rw [← a3] at h3
  refine Ev.callR hd hM_83 rfl (y := 81) (as := [.int ((v1 &&& (2147483647 : Int32)) >>> ((5 : Int32) &&& 31)), .int x2]) (rest := []) rfl (Nat.le_of_ble_eq_true rfl) h3 ?_
  refine Ev.run (c' := (72, [.ref 0, .ref 1, .int x2, .int x3, .int (v1 &&& (2147483647 : Int32)), .int v2, .int v3, u7, u8, u9, u10, u11, u12, u13, u14, u15, u16, u17, u18, u19], [.int v3, .int v2], hp E w3)) hM_83 3 rfl ?_
  refine Ev.icT hM_83 rfl (cI_eqT c2) ?_
  refine Ev.run (c' := (101, [.ref 0, .ref 1, .int x2, .int x3, .int (v1 &&& (2147483647 : Int32)), .int v2, .int v3, u7, u8, u9, u10, u11, u12, u13, u14, u15, u16, u17, u18, u19], [], hp E w3)) hM_83 0 rfl ?_
  exact e
theorem p83_32_j {E : Nat × (Nat → Int32)} {w : Wd} {d : Nat} {x2 x3 : Int32} {u4 u5 u6 u7 u8 u9 u10 u11 u12 u13 u14 u15 u16 u17 u18 u19 : Value} {o : Ou} {w1 : Wd} {v1 : Int32} (hd : 1 ≤ d) (c1 : ¬ x3 < (24 : Int32)) (h1 : Ev (d - 1) 69 (ent0 69 [.ref 1] (hp E w)) (.inl (some (.int v1)), hp E w1)) (e : Ev d 83 (498, [.ref 0, .ref 1, .int x2, .int v1, .int (0 : Int32), u5, u6, u7, u8, u9, u10, u11, u12, u13, u14, u15, u16, u17, u18, u19], [], hp E w1) o) : Ev d 83 (32, [.ref 0, .ref 1, .int x2, .int x3, u4, u5, u6, u7, u8, u9, u10, u11, u12, u13, u14, u15, u16, u17, u18, u19], [], hp E w) o := by
  refine Ev.run (c' := (35, [.ref 0, .ref 1, .int x2, .int x3, u4, u5, u6, u7, u8, u9, u10, u11, u12, u13, u14, u15, u16, u17, u18, u19], [.int (24 : Int32), .int x3], hp E w)) hM_83 2 rfl ?_
  refine Ev.icT hM_83 rfl (cI_geT c1) ?_
  refine Ev.run (c' := (491, [.ref 0, .ref 1, .int x2, .int x3, u4, u5, u6, u7, u8, u9, u10, u11, u12, u13, u14, u15, u16, u17, u18, u19], [.ref 1], hp E w)) hM_83 1 rfl ?_
  refine Ev.callR hd hM_83 rfl (y := 69) (as := [.ref 1]) (rest := []) rfl (Nat.le_of_ble_eq_true rfl) h1 ?_
  refine Ev.run (c' := (498, [.ref 0, .ref 1, .int x2, .int v1, .int (0 : Int32), u5, u6, u7, u8, u9, u10, u11, u12, u13, u14, u15, u16, u17, u18, u19], [], hp E w1)) hM_83 3 rfl ?_
  exact e
theorem p83_101_d {E : Nat × (Nat → Int32)} {w : Wd} {d : Nat} {x2 x3 x4 x5 x6 : Int32} {u7 u8 u9 u10 u11 u12 u13 u14 u15 u16 u17 u18 u19 : Value} {o : Ou} {z1 : Int32} {w1 : Wd} {v1 : Int32} {z2 : Int32} {w2 : Wd} {v2 : Int32} {z3 : Int32} {w3 : Wd} {v3 : Int32} {w4 : Wd} {v4 : Int32} {w5 : Wd} {v5 : Int32} {w6 : Wd} {v6 : Int32} (hd : 1 ≤ d) (c1 : (x3 - x3 / (6 : Int32) * (6 : Int32)) = (5 : Int32)) (a1 : (x4 >>> ((3 : Int32) &&& 31)) = z1) (h1 : Ev (d - 1) 81 (ent0 81 [.int z1, .int x2] (hp E w)) (.inl (some (.int v1)), hp E w1)) (a2 : (x4 >>> ((8 : Int32) &&& 31)) = z2) (h2 : Ev (d - 1) 81 (ent0 81 [.int z2, .int x2] (hp E w1)) (.inl (some (.int v2)), hp E w2)) (a3 : (x4 >>> ((13 : Int32) &&& 31)) = z3) (h3 : Ev (d - 1) 81 (ent0 81 [.int z3, .int x2] (hp E w2)) (.inl (some (.int v3)), hp E w3)) (h4 : Ev (d - 1) 63 (ent0 63 [.ref 1, .int v1, .int (-1 : Int32), .int v3] (hp E w3)) (.inl (some (.int v4)), hp E w4)) (h5 : Ev (d - 1) 63 (ent0 63 [.ref 1, .int v1, .int v2, .int v3] (hp E w4)) (.inl (some (.int v5)), hp E w5)) (h6 : Ev (d - 1) 63 (ent0 63 [.ref 1, .int v2, .int v1, .int v3] (hp E w5)) (.inl (some (.int v6)), hp E w6)) (c2 : v6 = v5) (c3 : ¬ v4 < 0) (c4 : ¬ v5 < 0) (c5 : ¬ v4 < v5) (e : Ev d 83 (200, [.ref 0, .ref 1, .int x2, .int x3, .int x4, .int x5, .int x6, .int v1, .int v2, .int v3, .int v4, .int v5, u12, u13, u14, u15, u16, u17, u18, u19], [], hp E w6) o) : Ev d 83 (101, [.ref 0, .ref 1, .int x2, .int x3, .int x4, .int x5, .int x6, u7, u8, u9, u10, u11, u12, u13, u14, u15, u16, u17, u18, u19], [], hp E w) o := by
  refine Ev.run (c' := (106, [.ref 0, .ref 1, .int x2, .int x3, .int x4, .int x5, .int x6, u7, u8, u9, u10, u11, u12, u13, u14, u15, u16, u17, u18, u19], [.int (5 : Int32), .int (x3 - x3 / (6 : Int32) * (6 : Int32))], hp E w)) hM_83 4 rfl ?_
  refine Ev.icF hM_83 rfl (cI_neF c1) ?_
  refine Ev.run (c' := (114, [.ref 0, .ref 1, .int x2, .int x3, .int x4, .int x5, .int x6, u7, u8, u9, u10, u11, u12, u13, u14, u15, u16, u17, u18, u19], [.int x2, .int (x4 >>> ((3 : Int32) &&& 31))], hp E w)) hM_83 4 rfl ?_
  rw [← a1] at h1
  refine Ev.callR hd hM_83 rfl (y := 81) (as := [.int (x4 >>> ((3 : Int32) &&& 31)), .int x2]) (rest := []) rfl (Nat.le_of_ble_eq_true rfl) h1 ?_
  refine Ev.run (c' := (125, [.ref 0, .ref 1, .int x2, .int x3, .int x4, .int x5, .int x6, .int v1, u8, u9, u10, u11, u12, u13, u14, u15, u16, u17, u18, u19], [.int x2, .int (x4 >>> ((8 : Int32) &&& 31))], hp E w1)) hM_83 5 rfl ?_
  rw [← a2] at h2
  refine Ev.callR hd hM_83 rfl (y := 81) (as := [.int (x4 >>> ((8 : Int32) &&& 31)), .int x2]) (rest := []) rfl (Nat.le_of_ble_eq_true rfl) h2 ?_
  refine Ev.run (c' := (136, [.ref 0, .ref 1, .int x2, .int x3, .int x4, .int x5, .int x6, .int v1, .int v2, u9, u10, u11, u12, u13, u14, u15, u16, u17, u18, u19], [.int x2, .int (x4 >>> ((13 : Int32) &&& 31))], hp E w2)) hM_83 5 rfl ?_
  rw [← a3] at h3
  refine Ev.callR hd hM_83 rfl (y := 81) (as := [.int (x4 >>> ((13 : Int32) &&& 31)), .int x2]) (rest := []) rfl (Nat.le_of_ble_eq_true rfl) h3 ?_
  refine Ev.run (c' := (147, [.ref 0, .ref 1, .int x2, .int x3, .int x4, .int x5, .int x6, .int v1, .int v2, .int v3, u10, u11, u12, u13, u14, u15, u16, u17, u18, u19], [.int v3, .int (-1 : Int32), .int v1, .ref 1], hp E w3)) hM_83 5 rfl ?_
  refine Ev.callR hd hM_83 rfl (y := 63) (as := [.ref 1, .int v1, .int (-1 : Int32), .int v3]) (rest := []) rfl (Nat.le_of_ble_eq_true rfl) h4 ?_
  refine Ev.run (c' := (159, [.ref 0, .ref 1, .int x2, .int x3, .int x4, .int x5, .int x6, .int v1, .int v2, .int v3, .int v4, u11, u12, u13, u14, u15, u16, u17, u18, u19], [.int v3, .int v2, .int v1, .ref 1], hp E w4)) hM_83 5 rfl ?_
  refine Ev.callR hd hM_83 rfl (y := 63) (as := [.ref 1, .int v1, .int v2, .int v3]) (rest := []) rfl (Nat.le_of_ble_eq_true rfl) h5 ?_
  refine Ev.run (c' := (171, [.ref 0, .ref 1, .int x2, .int x3, .int x4, .int x5, .int x6, .int v1, .int v2, .int v3, .int v4, .int v5, u12, u13, u14, u15, u16, u17, u18, u19], [.int v3, .int v1, .int v2, .ref 1], hp E w5)) hM_83 5 rfl ?_
  refine Ev.callR hd hM_83 rfl (y := 63) (as := [.ref 1, .int v2, .int v1, .int v3]) (rest := []) rfl (Nat.le_of_ble_eq_true rfl) h6 ?_
  refine Ev.run (c' := (176, [.ref 0, .ref 1, .int x2, .int x3, .int x4, .int x5, .int x6, .int v1, .int v2, .int v3, .int v4, .int v5, u12, u13, u14, u15, u16, u17, u18, u19], [.int v5, .int v6], hp E w6)) hM_83 1 rfl ?_
  refine Ev.icT hM_83 rfl (cI_eqT c2) ?_
  refine Ev.run (c' := (183, [.ref 0, .ref 1, .int x2, .int x3, .int x4, .int x5, .int x6, .int v1, .int v2, .int v3, .int v4, .int v5, u12, u13, u14, u15, u16, u17, u18, u19], [.int v4], hp E w6)) hM_83 1 rfl ?_
  refine Ev.ifF hM_83 rfl (cI_ltF c3) ?_
  refine Ev.run (c' := (188, [.ref 0, .ref 1, .int x2, .int x3, .int x4, .int x5, .int x6, .int v1, .int v2, .int v3, .int v4, .int v5, u12, u13, u14, u15, u16, u17, u18, u19], [.int v5], hp E w6)) hM_83 1 rfl ?_
  refine Ev.ifF hM_83 rfl (cI_ltF c4) ?_
  refine Ev.run (c' := (195, [.ref 0, .ref 1, .int x2, .int x3, .int x4, .int x5, .int x6, .int v1, .int v2, .int v3, .int v4, .int v5, u12, u13, u14, u15, u16, u17, u18, u19], [.int v4, .int v5], hp E w6)) hM_83 2 rfl ?_
  refine Ev.icT hM_83 rfl (cI_leT c5) ?_
  refine Ev.run (c' := (200, [.ref 0, .ref 1, .int x2, .int x3, .int x4, .int x5, .int x6, .int v1, .int v2, .int v3, .int v4, .int v5, u12, u13, u14, u15, u16, u17, u18, u19], [], hp E w6)) hM_83 0 rfl ?_
  exact e
theorem p83_101_e {E : Nat × (Nat → Int32)} {w : Wd} {d : Nat} {x2 x3 x4 x5 x6 : Int32} {u7 u8 u9 u10 u11 u12 u13 u14 u15 u16 u17 u18 u19 : Value} {o : Ou} {z1 : Int32} {w1 : Wd} {v1 : Int32} {z2 : Int32} {w2 : Wd} {v2 : Int32} {z3 : Int32} {w3 : Wd} {v3 : Int32} {w4 : Wd} {v4 : Int32} {w5 : Wd} {v5 : Int32} {w6 : Wd} {v6 : Int32} (hd : 1 ≤ d) (c1 : (x3 - x3 / (6 : Int32) * (6 : Int32)) = (5 : Int32)) (a1 : (x4 >>> ((3 : Int32) &&& 31)) = z1) (h1 : Ev (d - 1) 81 (ent0 81 [.int z1, .int x2] (hp E w)) (.inl (some (.int v1)), hp E w1)) (a2 : (x4 >>> ((8 : Int32) &&& 31)) = z2) (h2 : Ev (d - 1) 81 (ent0 81 [.int z2, .int x2] (hp E w1)) (.inl (some (.int v2)), hp E w2)) (a3 : (x4 >>> ((13 : Int32) &&& 31)) = z3) (h3 : Ev (d - 1) 81 (ent0 81 [.int z3, .int x2] (hp E w2)) (.inl (some (.int v3)), hp E w3)) (h4 : Ev (d - 1) 63 (ent0 63 [.ref 1, .int v1, .int (-1 : Int32), .int v3] (hp E w3)) (.inl (some (.int v4)), hp E w4)) (h5 : Ev (d - 1) 63 (ent0 63 [.ref 1, .int v1, .int v2, .int v3] (hp E w4)) (.inl (some (.int v5)), hp E w5)) (h6 : Ev (d - 1) 63 (ent0 63 [.ref 1, .int v2, .int v1, .int v3] (hp E w5)) (.inl (some (.int v6)), hp E w6)) (c2 : v6 = v5) (c3 : v4 < 0) (e : Ev d 83 (200, [.ref 0, .ref 1, .int x2, .int x3, .int x4, .int x5, .int x6, .int v1, .int v2, .int v3, .int v4, .int v5, u12, u13, u14, u15, u16, u17, u18, u19], [], hp E w6) o) : Ev d 83 (101, [.ref 0, .ref 1, .int x2, .int x3, .int x4, .int x5, .int x6, u7, u8, u9, u10, u11, u12, u13, u14, u15, u16, u17, u18, u19], [], hp E w) o := by
  refine Ev.run (c' := (106, [.ref 0, .ref 1, .int x2, .int x3, .int x4, .int x5, .int x6, u7, u8, u9, u10, u11, u12, u13, u14, u15, u16, u17, u18, u19], [.int (5 : Int32), .int (x3 - x3 / (6 : Int32) * (6 : Int32))], hp E w)) hM_83 4 rfl ?_
  refine Ev.icF hM_83 rfl (cI_neF c1) ?_
  refine Ev.run (c' := (114, [.ref 0, .ref 1, .int x2, .int x3, .int x4, .int x5, .int x6, u7, u8, u9, u10, u11, u12, u13, u14, u15, u16, u17, u18, u19], [.int x2, .int (x4 >>> ((3 : Int32) &&& 31))], hp E w)) hM_83 4 rfl ?_
  rw [← a1] at h1
  refine Ev.callR hd hM_83 rfl (y := 81) (as := [.int (x4 >>> ((3 : Int32) &&& 31)), .int x2]) (rest := []) rfl (Nat.le_of_ble_eq_true rfl) h1 ?_
  refine Ev.run (c' := (125, [.ref 0, .ref 1, .int x2, .int x3, .int x4, .int x5, .int x6, .int v1, u8, u9, u10, u11, u12, u13, u14, u15, u16, u17, u18, u19], [.int x2, .int (x4 >>> ((8 : Int32) &&& 31))], hp E w1)) hM_83 5 rfl ?_
  rw [← a2] at h2
  refine Ev.callR hd hM_83 rfl (y := 81) (as := [.int (x4 >>> ((8 : Int32) &&& 31)), .int x2]) (rest := []) rfl (Nat.le_of_ble_eq_true rfl) h2 ?_
  refine Ev.run (c' := (136, [.ref 0, .ref 1, .int x2, .int x3, .int x4, .int x5, .int x6, .int v1, .int v2, u9, u10, u11, u12, u13, u14, u15, u16, u17, u18, u19], [.int x2, .int (x4 >>> ((13 : Int32) &&& 31))], hp E w2)) hM_83 5 rfl ?_
  rw [← a3] at h3
  refine Ev.callR hd hM_83 rfl (y := 81) (as := [.int (x4 >>> ((13 : Int32) &&& 31)), .int x2]) (rest := []) rfl (Nat.le_of_ble_eq_true rfl) h3 ?_
  refine Ev.run (c' := (147, [.ref 0, .ref 1, .int x2, .int x3, .int x4, .int x5, .int x6, .int v1, .int v2, .int v3, u10, u11, u12, u13, u14, u15, u16, u17, u18, u19], [.int v3, .int (-1 : Int32), .int v1, .ref 1], hp E w3)) hM_83 5 rfl ?_
  refine Ev.callR hd hM_83 rfl (y := 63) (as := [.ref 1, .int v1, .int (-1 : Int32), .int v3]) (rest := []) rfl (Nat.le_of_ble_eq_true rfl) h4 ?_
  refine Ev.run (c' := (159, [.ref 0, .ref 1, .int x2, .int x3, .int x4, .int x5, .int x6, .int v1, .int v2, .int v3, .int v4, u11, u12, u13, u14, u15, u16, u17, u18, u19], [.int v3, .int v2, .int v1, .ref 1], hp E w4)) hM_83 5 rfl ?_
  refine Ev.callR hd hM_83 rfl (y := 63) (as := [.ref 1, .int v1, .int v2, .int v3]) (rest := []) rfl (Nat.le_of_ble_eq_true rfl) h5 ?_
  refine Ev.run (c' := (171, [.ref 0, .ref 1, .int x2, .int x3, .int x4, .int x5, .int x6, .int v1, .int v2, .int v3, .int v4, .int v5, u12, u13, u14, u15, u16, u17, u18, u19], [.int v3, .int v1, .int v2, .ref 1], hp E w5)) hM_83 5 rfl ?_
  refine Ev.callR hd hM_83 rfl (y := 63) (as := [.ref 1, .int v2, .int v1, .int v3]) (rest := []) rfl (Nat.le_of_ble_eq_true rfl) h6 ?_
  refine Ev.run (c' := (176, [.ref 0, .ref 1, .int x2, .int x3, .int x4, .int x5, .int x6, .int v1, .int v2, .int v3, .int v4, .int v5, u12, u13, u14, u15, u16, u17, u18, u19], [.int v5, .int v6], hp E w6)) hM_83 1 rfl ?_
  refine Ev.icT hM_83 rfl (cI_eqT c2) ?_
  refine Ev.run (c' := (183, [.ref 0, .ref 1, .int x2, .int x3, .int x4, .int x5, .int x6, .int v1, .int v2, .int v3, .int v4, .int v5, u12, u13, u14, u15, u16, u17, u18, u19], [.int v4], hp E w6)) hM_83 1 rfl ?_
  refine Ev.ifT hM_83 rfl (cI_ltT c3) ?_
  refine Ev.run (c' := (200, [.ref 0, .ref 1, .int x2, .int x3, .int x4, .int x5, .int x6, .int v1, .int v2, .int v3, .int v4, .int v5, u12, u13, u14, u15, u16, u17, u18, u19], [], hp E w6)) hM_83 0 rfl ?_
  exact e
theorem p83_101_f {E : Nat × (Nat → Int32)} {w : Wd} {d : Nat} {x2 x3 x4 x5 x6 : Int32} {u7 u8 u9 u10 u11 u12 u13 u14 u15 u16 u17 u18 u19 : Value} {o : Ou}  (c1 : ¬ (x3 - x3 / (6 : Int32) * (6 : Int32)) = (5 : Int32)) (e : Ev d 83 (484, [.ref 0, .ref 1, .int x2, .int x3, .int x4, .int x5, .int x6, u7, u8, u9, u10, u11, u12, u13, u14, u15, u16, u17, u18, u19], [], hp E w) o) : Ev d 83 (101, [.ref 0, .ref 1, .int x2, .int x3, .int x4, .int x5, .int x6, u7, u8, u9, u10, u11, u12, u13, u14, u15, u16, u17, u18, u19], [], hp E w) o := by
  refine Ev.run (c' := (106, [.ref 0, .ref 1, .int x2, .int x3, .int x4, .int x5, .int x6, u7, u8, u9, u10, u11, u12, u13, u14, u15, u16, u17, u18, u19], [.int (5 : Int32), .int (x3 - x3 / (6 : Int32) * (6 : Int32))], hp E w)) hM_83 4 rfl ?_
  refine Ev.icT hM_83 rfl (cI_neT c1) ?_
  refine Ev.run (c' := (484, [.ref 0, .ref 1, .int x2, .int x3, .int x4, .int x5, .int x6, u7, u8, u9, u10, u11, u12, u13, u14, u15, u16, u17, u18, u19], [], hp E w)) hM_83 0 rfl ?_
  exact e
theorem p83_200_a {E : Nat × (Nat → Int32)} {w : Wd} {d : Nat} {x2 x3 x4 x5 x6 x7 x8 x9 x10 x11 : Int32} {u12 u13 u14 u15 u16 u17 u18 u19 : Value} {o : Ou}  (e : Ev d 83 (212, [.ref 0, .ref 1, .int x2, .int x3, .int x4, .int x5, .int x6, .int x7, .int x8, .int x9, .int x10, .int x11, .int x10, .int x7, .int x9, u15, u16, u17, u18, u19], [], hp E w) o) : Ev d 83 (200, [.ref 0, .ref 1, .int x2, .int x3, .int x4, .int x5, .int x6, .int x7, .int x8, .int x9, .int x10, .int x11, u12, u13, u14, u15, u16, u17, u18, u19], [], hp E w) o := by
  refine Ev.run (c' := (212, [.ref 0, .ref 1, .int x2, .int x3, .int x4, .int x5, .int x6, .int x7, .int x8, .int x9, .int x10, .int x11, .int x10, .int x7, .int x9, u15, u16, u17, u18, u19], [], hp E w)) hM_83 6 rfl ?_
  exact e
theorem p83_212_d {E : Nat × (Nat → Int32)} {w : Wd} {d : Nat} {x2 x3 x4 x5 x6 x7 x8 x9 x10 x11 x12 x13 x14 : Int32} {u15 u16 u17 u18 u19 : Value} {o : Ou} {w1 : Wd} {v1 : Int32} {w2 : Wd} {v2 : Int32} {w3 : Wd} {v3 : Int32} {y12 : Int32} (hd : 1 ≤ d) (c1 : 0 < x12) (h1 : Ev (d - 1) 64 (ent0 64 [.ref 1, .int x13, .int (-1 : Int32), .int x14] (hp E w)) (.inl (some (.int v1)), hp E w1)) (c2 : ¬ v1 < 0) (c3 : ¬ v1 = x14) (h2 : Ev (d - 1) 65 (ent0 65 [.ref 1, .int v1, .int (-1 : Int32), .int x14] (hp E w1)) (.inl (some (.int v2)), hp E w2)) (c4 : ¬ v2 < 0) (h3 : Ev (d - 1) 63 (ent0 63 [.ref 1, .int v1, .int (-1 : Int32), .int v2] (hp E w2)) (.inl (some (.int v3)), hp E w3)) (c5 : v3 = (x12 + (-1 : Int32))) (q12 : (x12 + (-1 : Int32)) = y12) (e : Ev d 83 (212, [.ref 0, .ref 1, .int x2, .int x3, .int x4, .int x5, .int x6, .int x7, .int x8, .int x9, .int x10, .int x11, .int y12, .int v1, .int v2, u15, u16, u17, u18, u19], [], hp E w3) o) : Ev d 83 (212, [.ref 0, .ref 1, .int x2, .int x3, .int x4, .int x5, .int x6, .int x7, .int x8, .int x9, .int x10, .int x11, .int x12, .int x13, .int x14, u15, u16, u17, u18, u19], [], hp E w) o := by
  subst q12
  refine Ev.run (c' := (214, [.ref 0, .ref 1, .int x2, .int x3, .int x4, .int x5, .int x6, .int x7, .int x8, .int x9, .int x10, .int x11, .int x12, .int x13, .int x14, u15, u16, u17, u18, u19], [.int x12], hp E w)) hM_83 1 rfl ?_
  refine Ev.ifF hM_83 rfl (cI_leF c1) ?_
  refine Ev.run (c' := (223, [.ref 0, .ref 1, .int x2, .int x3, .int x4, .int x5, .int x6, .int x7, .int x8, .int x9, .int x10, .int x11, .int x12, .int x13, .int x14, u15, u16, u17, u18, u19], [.int x14, .int (-1 : Int32), .int x13, .ref 1], hp E w)) hM_83 4 rfl ?_
  refine Ev.callR hd hM_83 rfl (y := 64) (as := [.ref 1, .int x13, .int (-1 : Int32), .int x14]) (rest := []) rfl (Nat.le_of_ble_eq_true rfl) h1 ?_
  refine Ev.run (c' := (230, [.ref 0, .ref 1, .int x2, .int x3, .int x4, .int x5, .int x6, .int x7, .int x8, .int x9, .int x10, .int x11, .int x12, .int v1, .int x14, u15, u16, u17, u18, u19], [.int v1], hp E w1)) hM_83 2 rfl ?_
  refine Ev.ifT hM_83 rfl (cI_geT c2) ?_
  refine Ev.run (c' := (242, [.ref 0, .ref 1, .int x2, .int x3, .int x4, .int x5, .int x6, .int x7, .int x8, .int x9, .int x10, .int x11, .int (x12 + (-1 : Int32)), .int v1, .int x14, u15, u16, u17, u18, u19], [.int x14, .int v1], hp E w1)) hM_83 3 rfl ?_
  refine Ev.icF hM_83 rfl (cI_eqF c3) ?_
  refine Ev.run (c' := (251, [.ref 0, .ref 1, .int x2, .int x3, .int x4, .int x5, .int x6, .int x7, .int x8, .int x9, .int x10, .int x11, .int (x12 + (-1 : Int32)), .int v1, .int x14, u15, u16, u17, u18, u19], [.int x14, .int (-1 : Int32), .int v1, .ref 1], hp E w1)) hM_83 4 rfl ?_
  refine Ev.callR hd hM_83 rfl (y := 65) (as := [.ref 1, .int v1, .int (-1 : Int32), .int x14]) (rest := []) rfl (Nat.le_of_ble_eq_true rfl) h2 ?_
  refine Ev.run (c' := (258, [.ref 0, .ref 1, .int x2, .int x3, .int x4, .int x5, .int x6, .int x7, .int x8, .int x9, .int x10, .int x11, .int (x12 + (-1 : Int32)), .int v1, .int v2, u15, u16, u17, u18, u19], [.int v2], hp E w2)) hM_83 2 rfl ?_
  refine Ev.ifF hM_83 rfl (cI_ltF c4) ?_
  refine Ev.run (c' := (267, [.ref 0, .ref 1, .int x2, .int x3, .int x4, .int x5, .int x6, .int x7, .int x8, .int x9, .int x10, .int x11, .int (x12 + (-1 : Int32)), .int v1, .int v2, u15, u16, u17, u18, u19], [.int v2, .int (-1 : Int32), .int v1, .ref 1], hp E w2)) hM_83 4 rfl ?_
  refine Ev.callR hd hM_83 rfl (y := 63) (as := [.ref 1, .int v1, .int (-1 : Int32), .int v2]) (rest := []) rfl (Nat.le_of_ble_eq_true rfl) h3 ?_
  refine Ev.run (c' := (272, [.ref 0, .ref 1, .int x2, .int x3, .int x4, .int x5, .int x6, .int x7, .int x8, .int x9, .int x10, .int x11, .int (x12 + (-1 : Int32)), .int v1, .int v2, u15, u16, u17, u18, u19], [.int (x12 + (-1 : Int32)), .int v3], hp E w3)) hM_83 1 rfl ?_
  refine Ev.icT hM_83 rfl (cI_eqT c5) ?_
  refine Ev.run (c' := (212, [.ref 0, .ref 1, .int x2, .int x3, .int x4, .int x5, .int x6, .int x7, .int x8, .int x9, .int x10, .int x11, .int (x12 + (-1 : Int32)), .int v1, .int v2, u15, u16, u17, u18, u19], [], hp E w3)) hM_83 0 rfl ?_
  exact e
theorem p83_212_e {E : Nat × (Nat → Int32)} {w : Wd} {d : Nat} {x2 x3 x4 x5 x6 x7 x8 x9 x10 x11 x12 x13 x14 : Int32} {u15 u16 u17 u18 u19 : Value} {o : Ou} {w1 : Wd} {v1 : Int32} {y12 : Int32} (hd : 1 ≤ d) (c1 : 0 < x12) (h1 : Ev (d - 1) 64 (ent0 64 [.ref 1, .int x13, .int (-1 : Int32), .int x14] (hp E w)) (.inl (some (.int v1)), hp E w1)) (c2 : ¬ v1 < 0) (c3 : v1 = x14) (c4 : (x12 + (-1 : Int32)) = 0) (q12 : (x12 + (-1 : Int32)) = y12) (e : Ev d 83 (212, [.ref 0, .ref 1, .int x2, .int x3, .int x4, .int x5, .int x6, .int x7, .int x8, .int x9, .int x10, .int x11, .int y12, .int v1, .int x14, u15, u16, u17, u18, u19], [], hp E w1) o) : Ev d 83 (212, [.ref 0, .ref 1, .int x2, .int x3, .int x4, .int x5, .int x6, .int x7, .int x8, .int x9, .int x10, .int x11, .int x12, .int x13, .int x14, u15, u16, u17, u18, u19], [], hp E w) o := by
  subst q12
  refine Ev.run (c' := (214, [.ref 0, .ref 1, .int x2, .int x3, .int x4, .int x5, .int x6, .int x7, .int x8, .int x9, .int x10, .int x11, .int x12, .int x13, .int x14, u15, u16, u17, u18, u19], [.int x12], hp E w)) hM_83 1 rfl ?_
  refine Ev.ifF hM_83 rfl (cI_leF c1) ?_
  refine Ev.run (c' := (223, [.ref 0, .ref 1, .int x2, .int x3, .int x4, .int x5, .int x6, .int x7, .int x8, .int x9, .int x10, .int x11, .int x12, .int x13, .int x14, u15, u16, u17, u18, u19], [.int x14, .int (-1 : Int32), .int x13, .ref 1], hp E w)) hM_83 4 rfl ?_
  refine Ev.callR hd hM_83 rfl (y := 64) (as := [.ref 1, .int x13, .int (-1 : Int32), .int x14]) (rest := []) rfl (Nat.le_of_ble_eq_true rfl) h1 ?_
  refine Ev.run (c' := (230, [.ref 0, .ref 1, .int x2, .int x3, .int x4, .int x5, .int x6, .int x7, .int x8, .int x9, .int x10, .int x11, .int x12, .int v1, .int x14, u15, u16, u17, u18, u19], [.int v1], hp E w1)) hM_83 2 rfl ?_
  refine Ev.ifT hM_83 rfl (cI_geT c2) ?_
  refine Ev.run (c' := (242, [.ref 0, .ref 1, .int x2, .int x3, .int x4, .int x5, .int x6, .int x7, .int x8, .int x9, .int x10, .int x11, .int (x12 + (-1 : Int32)), .int v1, .int x14, u15, u16, u17, u18, u19], [.int x14, .int v1], hp E w1)) hM_83 3 rfl ?_
  refine Ev.icT hM_83 rfl (cI_eqT c3) ?_
  refine Ev.run (c' := (279, [.ref 0, .ref 1, .int x2, .int x3, .int x4, .int x5, .int x6, .int x7, .int x8, .int x9, .int x10, .int x11, .int (x12 + (-1 : Int32)), .int v1, .int x14, u15, u16, u17, u18, u19], [.int (x12 + (-1 : Int32))], hp E w1)) hM_83 1 rfl ?_
  refine Ev.ifT hM_83 rfl (cI_eqT c4) ?_
  refine Ev.run (c' := (212, [.ref 0, .ref 1, .int x2, .int x3, .int x4, .int x5, .int x6, .int x7, .int x8, .int x9, .int x10, .int x11, .int (x12 + (-1 : Int32)), .int v1, .int x14, u15, u16, u17, u18, u19], [], hp E w1)) hM_83 0 rfl ?_
  exact e
theorem p83_212_f {E : Nat × (Nat → Int32)} {w : Wd} {d : Nat} {x2 x3 x4 x5 x6 x7 x8 x9 x10 x11 x12 x13 x14 : Int32} {u15 u16 u17 u18 u19 : Value} {o : Ou}  (c1 : ¬ 0 < x12) (e : Ev d 83 (284, [.ref 0, .ref 1, .int x2, .int x3, .int x4, .int x5, .int x6, .int x7, .int x8, .int x9, .int x10, .int x11, .int x12, .int x13, .int x14, u15, u16, u17, u18, u19], [], hp E w) o) : Ev d 83 (212, [.ref 0, .ref 1, .int x2, .int x3, .int x4, .int x5, .int x6, .int x7, .int x8, .int x9, .int x10, .int x11, .int x12, .int x13, .int x14, u15, u16, u17, u18, u19], [], hp E w) o := by
  refine Ev.run (c' := (214, [.ref 0, .ref 1, .int x2, .int x3, .int x4, .int x5, .int x6, .int x7, .int x8, .int x9, .int x10, .int x11, .int x12, .int x13, .int x14, u15, u16, u17, u18, u19], [.int x12], hp E w)) hM_83 1 rfl ?_
  refine Ev.ifT hM_83 rfl (cI_leT c1) ?_
  refine Ev.run (c' := (284, [.ref 0, .ref 1, .int x2, .int x3, .int x4, .int x5, .int x6, .int x7, .int x8, .int x9, .int x10, .int x11, .int x12, .int x13, .int x14, u15, u16, u17, u18, u19], [], hp E w)) hM_83 0 rfl ?_
  exact e
theorem p83_284_a {E : Nat × (Nat → Int32)} {w : Wd} {d : Nat} {x2 x3 x4 x5 x6 x7 x8 x9 x10 x11 x12 x13 x14 : Int32} {u15 u16 u17 u18 u19 : Value} {o : Ou}  (c1 : ¬ x10 < 0) (c2 : x13 = x14) (e : Ev d 83 (298, [.ref 0, .ref 1, .int x2, .int x3, .int x4, .int x5, .int x6, .int x7, .int x8, .int x9, .int x10, .int x11, .int x12, .int x13, .int x14, u15, u16, u17, u18, u19], [], hp E w) o) : Ev d 83 (284, [.ref 0, .ref 1, .int x2, .int x3, .int x4, .int x5, .int x6, .int x7, .int x8, .int x9, .int x10, .int x11, .int x12, .int x13, .int x14, u15, u16, u17, u18, u19], [], hp E w) o := by
  refine Ev.run (c' := (286, [.ref 0, .ref 1, .int x2, .int x3, .int x4, .int x5, .int x6, .int x7, .int x8, .int x9, .int x10, .int x11, .int x12, .int x13, .int x14, u15, u16, u17, u18, u19], [.int x10], hp E w)) hM_83 1 rfl ?_
  refine Ev.ifF hM_83 rfl (cI_ltF c1) ?_
  refine Ev.run (c' := (293, [.ref 0, .ref 1, .int x2, .int x3, .int x4, .int x5, .int x6, .int x7, .int x8, .int x9, .int x10, .int x11, .int x12, .int x13, .int x14, u15, u16, u17, u18, u19], [.int x14, .int x13], hp E w)) hM_83 2 rfl ?_
  refine Ev.icT hM_83 rfl (cI_eqT c2) ?_
  refine Ev.run (c' := (298, [.ref 0, .ref 1, .int x2, .int x3, .int x4, .int x5, .int x6, .int x7, .int x8, .int x9, .int x10, .int x11, .int x12, .int x13, .int x14, u15, u16, u17, u18, u19], [], hp E w)) hM_83 0 rfl ?_
  exact e
theorem p83_284_b {E : Nat × (Nat → Int32)} {w : Wd} {d : Nat} {x2 x3 x4 x5 x6 x7 x8 x9 x10 x11 x12 x13 x14 : Int32} {u15 u16 u17 u18 u19 : Value} {o : Ou}  (c1 : x10 < 0) (e : Ev d 83 (298, [.ref 0, .ref 1, .int x2, .int x3, .int x4, .int x5, .int x6, .int x7, .int x8, .int x9, .int x10, .int x11, .int x12, .int x13, .int x14, u15, u16, u17, u18, u19], [], hp E w) o) : Ev d 83 (284, [.ref 0, .ref 1, .int x2, .int x3, .int x4, .int x5, .int x6, .int x7, .int x8, .int x9, .int x10, .int x11, .int x12, .int x13, .int x14, u15, u16, u17, u18, u19], [], hp E w) o := by
  refine Ev.run (c' := (286, [.ref 0, .ref 1, .int x2, .int x3, .int x4, .int x5, .int x6, .int x7, .int x8, .int x9, .int x10, .int x11, .int x12, .int x13, .int x14, u15, u16, u17, u18, u19], [.int x10], hp E w)) hM_83 1 rfl ?_
  refine Ev.ifT hM_83 rfl (cI_ltT c1) ?_
  refine Ev.run (c' := (298, [.ref 0, .ref 1, .int x2, .int x3, .int x4, .int x5, .int x6, .int x7, .int x8, .int x9, .int x10, .int x11, .int x12, .int x13, .int x14, u15, u16, u17, u18, u19], [], hp E w)) hM_83 0 rfl ?_
  exact e
theorem p83_298_b {E : Nat × (Nat → Int32)} {w : Wd} {d : Nat} {x2 x3 x4 x5 x6 x7 x8 x9 x10 x11 x12 x13 x14 : Int32} {u15 u16 u17 u18 u19 : Value} {o : Ou} {w1 : Wd} {v1 : Int32} (hd : 1 ≤ d) (c1 : x10 < 0) (h1 : Ev (d - 1) 64 (ent0 64 [.ref 1, .int x7, .int (-1 : Int32), .int x9] (hp E w)) (.inl (some (.int v1)), hp E w1)) (c2 : v1 = (-1 : Int32)) (e : Ev d 83 (318, [.ref 0, .ref 1, .int x2, .int x3, .int x4, .int x5, .int x6, .int x7, .int x8, .int x9, .int x10, .int x11, .int x12, .int x13, .int x14, u15, u16, u17, u18, u19], [], hp E w1) o) : Ev d 83 (298, [.ref 0, .ref 1, .int x2, .int x3, .int x4, .int x5, .int x6, .int x7, .int x8, .int x9, .int x10, .int x11, .int x12, .int x13, .int x14, u15, u16, u17, u18, u19], [], hp E w) o := by
  refine Ev.run (c' := (300, [.ref 0, .ref 1, .int x2, .int x3, .int x4, .int x5, .int x6, .int x7, .int x8, .int x9, .int x10, .int x11, .int x12, .int x13, .int x14, u15, u16, u17, u18, u19], [.int x10], hp E w)) hM_83 1 rfl ?_
  refine Ev.ifF hM_83 rfl (cI_geF c1) ?_
  refine Ev.run (c' := (309, [.ref 0, .ref 1, .int x2, .int x3, .int x4, .int x5, .int x6, .int x7, .int x8, .int x9, .int x10, .int x11, .int x12, .int x13, .int x14, u15, u16, u17, u18, u19], [.int x9, .int (-1 : Int32), .int x7, .ref 1], hp E w)) hM_83 4 rfl ?_
  refine Ev.callR hd hM_83 rfl (y := 64) (as := [.ref 1, .int x7, .int (-1 : Int32), .int x9]) (rest := []) rfl (Nat.le_of_ble_eq_true rfl) h1 ?_
  refine Ev.run (c' := (313, [.ref 0, .ref 1, .int x2, .int x3, .int x4, .int x5, .int x6, .int x7, .int x8, .int x9, .int x10, .int x11, .int x12, .int x13, .int x14, u15, u16, u17, u18, u19], [.int (-1 : Int32), .int v1], hp E w1)) hM_83 1 rfl ?_
  refine Ev.icT hM_83 rfl (cI_eqT c2) ?_
  refine Ev.run (c' := (318, [.ref 0, .ref 1, .int x2, .int x3, .int x4, .int x5, .int x6, .int x7, .int x8, .int x9, .int x10, .int x11, .int x12, .int x13, .int x14, u15, u16, u17, u18, u19], [], hp E w1)) hM_83 0 rfl ?_
  exact e
theorem p83_298_c {E : Nat × (Nat → Int32)} {w : Wd} {d : Nat} {x2 x3 x4 x5 x6 x7 x8 x9 x10 x11 x12 x13 x14 : Int32} {u15 u16 u17 u18 u19 : Value} {o : Ou}  (c1 : ¬ x10 < 0) (e : Ev d 83 (318, [.ref 0, .ref 1, .int x2, .int x3, .int x4, .int x5, .int x6, .int x7, .int x8, .int x9, .int x10, .int x11, .int x12, .int x13, .int x14, u15, u16, u17, u18, u19], [], hp E w) o) : Ev d 83 (298, [.ref 0, .ref 1, .int x2, .int x3, .int x4, .int x5, .int x6, .int x7, .int x8, .int x9, .int x10, .int x11, .int x12, .int x13, .int x14, u15, u16, u17, u18, u19], [], hp E w) o := by
  refine Ev.run (c' := (300, [.ref 0, .ref 1, .int x2, .int x3, .int x4, .int x5, .int x6, .int x7, .int x8, .int x9, .int x10, .int x11, .int x12, .int x13, .int x14, u15, u16, u17, u18, u19], [.int x10], hp E w)) hM_83 1 rfl ?_
  refine Ev.ifT hM_83 rfl (cI_geT c1) ?_
  refine Ev.run (c' := (318, [.ref 0, .ref 1, .int x2, .int x3, .int x4, .int x5, .int x6, .int x7, .int x8, .int x9, .int x10, .int x11, .int x12, .int x13, .int x14, u15, u16, u17, u18, u19], [], hp E w)) hM_83 0 rfl ?_
  exact e
theorem p83_318_b {E : Nat × (Nat → Int32)} {w : Wd} {d : Nat} {x2 x3 x4 x5 x6 x7 x8 x9 x10 x11 x12 x13 x14 : Int32} {u15 u16 u17 u18 u19 : Value} {o : Ou} {w1 : Wd} {v1 : Int32} (hd : 1 ≤ d) (h1 : Ev (d - 1) 64 (ent0 64 [.ref 1, .int x7, .int x8, .int x9] (hp E w)) (.inl (some (.int v1)), hp E w1)) (c1 : v1 = (-1 : Int32)) (c2 : x11 < (1 : Int32)) (e : Ev d 83 (357, [.ref 0, .ref 1, .int x2, .int x3, .int x4, .int x5, .int x6, .int x7, .int x8, .int x9, .int x10, .int x11, .int x12, .int x13, .int x14, .int v1, u16, u17, u18, u19], [], hp E w1) o) : Ev d 83 (318, [.ref 0, .ref 1, .int x2, .int x3, .int x4, .int x5, .int x6, .int x7, .int x8, .int x9, .int x10, .int x11, .int x12, .int x13, .int x14, u15, u16, u17, u18, u19], [], hp E w) o := by
  refine Ev.run (c' := (325, [.ref 0, .ref 1, .int x2, .int x3, .int x4, .int x5, .int x6, .int x7, .int x8, .int x9, .int x10, .int x11, .int x12, .int x13, .int x14, u15, u16, u17, u18, u19], [.int x9, .int x8, .int x7, .ref 1], hp E w)) hM_83 4 rfl ?_
  refine Ev.callR hd hM_83 rfl (y := 64) (as := [.ref 1, .int x7, .int x8, .int x9]) (rest := []) rfl (Nat.le_of_ble_eq_true rfl) h1 ?_
  refine Ev.run (c' := (333, [.ref 0, .ref 1, .int x2, .int x3, .int x4, .int x5, .int x6, .int x7, .int x8, .int x9, .int x10, .int x11, .int x12, .int x13, .int x14, .int v1, u16, u17, u18, u19], [.int (-1 : Int32), .int v1], hp E w1)) hM_83 3 rfl ?_
  refine Ev.icF hM_83 rfl (cI_neF c1) ?_
  refine Ev.run (c' := (344, [.ref 0, .ref 1, .int x2, .int x3, .int x4, .int x5, .int x6, .int x7, .int x8, .int x9, .int x10, .int x11, .int x12, .int x13, .int x14, .int v1, u16, u17, u18, u19], [.int (1 : Int32), .int x11, .int (1 : Int32)], hp E w1)) hM_83 4 rfl ?_
  refine Ev.icF hM_83 rfl (cI_geF c2) ?_
  refine Ev.run (c' := (352, [.ref 0, .ref 1, .int x2, .int x3, .int x4, .int x5, .int x6, .int x7, .int x8, .int x9, .int x10, .int x11, .int x12, .int x13, .int x14, .int v1, u16, u17, u18, u19], [.int (1 : Int32), .int (1 : Int32)], hp E w1)) hM_83 2 rfl ?_
  refine Ev.icT hM_83 rfl (by decide) ?_
  refine Ev.run (c' := (357, [.ref 0, .ref 1, .int x2, .int x3, .int x4, .int x5, .int x6, .int x7, .int x8, .int x9, .int x10, .int x11, .int x12, .int x13, .int x14, .int v1, u16, u17, u18, u19], [], hp E w1)) hM_83 0 rfl ?_
  exact e
theorem p83_318_c {E : Nat × (Nat → Int32)} {w : Wd} {d : Nat} {x2 x3 x4 x5 x6 x7 x8 x9 x10 x11 x12 x13 x14 : Int32} {u15 u16 u17 u18 u19 : Value} {o : Ou} {w1 : Wd} {v1 : Int32} (hd : 1 ≤ d) (h1 : Ev (d - 1) 64 (ent0 64 [.ref 1, .int x7, .int x8, .int x9] (hp E w)) (.inl (some (.int v1)), hp E w1)) (c1 : ¬ v1 = (-1 : Int32)) (c2 : ¬ x11 < (1 : Int32)) (e : Ev d 83 (357, [.ref 0, .ref 1, .int x2, .int x3, .int x4, .int x5, .int x6, .int x7, .int x8, .int x9, .int x10, .int x11, .int x12, .int x13, .int x14, .int v1, u16, u17, u18, u19], [], hp E w1) o) : Ev d 83 (318, [.ref 0, .ref 1, .int x2, .int x3, .int x4, .int x5, .int x6, .int x7, .int x8, .int x9, .int x10, .int x11, .int x12, .int x13, .int x14, u15, u16, u17, u18, u19], [], hp E w) o := by
  refine Ev.run (c' := (325, [.ref 0, .ref 1, .int x2, .int x3, .int x4, .int x5, .int x6, .int x7, .int x8, .int x9, .int x10, .int x11, .int x12, .int x13, .int x14, u15, u16, u17, u18, u19], [.int x9, .int x8, .int x7, .ref 1], hp E w)) hM_83 4 rfl ?_
  refine Ev.callR hd hM_83 rfl (y := 64) (as := [.ref 1, .int x7, .int x8, .int x9]) (rest := []) rfl (Nat.le_of_ble_eq_true rfl) h1 ?_
  refine Ev.run (c' := (333, [.ref 0, .ref 1, .int x2, .int x3, .int x4, .int x5, .int x6, .int x7, .int x8, .int x9, .int x10, .int x11, .int x12, .int x13, .int x14, .int v1, u16, u17, u18, u19], [.int (-1 : Int32), .int v1], hp E w1)) hM_83 3 rfl ?_
  refine Ev.icT hM_83 rfl (cI_neT c1) ?_
  refine Ev.run (c' := (344, [.ref 0, .ref 1, .int x2, .int x3, .int x4, .int x5, .int x6, .int x7, .int x8, .int x9, .int x10, .int x11, .int x12, .int x13, .int x14, .int v1, u16, u17, u18, u19], [.int (1 : Int32), .int x11, .int (0 : Int32)], hp E w1)) hM_83 3 rfl ?_
  refine Ev.icT hM_83 rfl (cI_geT c2) ?_
  refine Ev.run (c' := (352, [.ref 0, .ref 1, .int x2, .int x3, .int x4, .int x5, .int x6, .int x7, .int x8, .int x9, .int x10, .int x11, .int x12, .int x13, .int x14, .int v1, u16, u17, u18, u19], [.int (0 : Int32), .int (0 : Int32)], hp E w1)) hM_83 1 rfl ?_
  refine Ev.icT hM_83 rfl (by decide) ?_
  refine Ev.run (c' := (357, [.ref 0, .ref 1, .int x2, .int x3, .int x4, .int x5, .int x6, .int x7, .int x8, .int x9, .int x10, .int x11, .int x12, .int x13, .int x14, .int v1, u16, u17, u18, u19], [], hp E w1)) hM_83 0 rfl ?_
  exact e
theorem p83_357_a {E : Nat × (Nat → Int32)} {w : Wd} {d : Nat} {x2 x3 x4 x5 x6 x7 x8 x9 x10 x11 x12 x13 x14 x15 : Int32} {u16 u17 u18 u19 : Value} {o : Ou}  (c1 : ¬ x15 < 0) (c2 : ¬ (x15 / (10 : Int32)) = x9) (c3 : (x15 - x15 / (10 : Int32) * (10 : Int32)) = x9) (c4 : x11 = (1 : Int32)) (e : Ev d 83 (452, [.ref 0, .ref 1, .int x2, .int x3, .int x4, .int x5, .int x6, .int x7, .int x8, .int x9, .int x10, .int x11, .int x12, .int x13, .int x14, .int x15, .int (x15 / (10 : Int32)), .int (x15 - x15 / (10 : Int32) * (10 : Int32)), .int (1 : Int32), .int x9], [], hp E w) o) : Ev d 83 (357, [.ref 0, .ref 1, .int x2, .int x3, .int x4, .int x5, .int x6, .int x7, .int x8, .int x9, .int x10, .int x11, .int x12, .int x13, .int x14, .int x15, u16, u17, u18, u19], [], hp E w) o := by
  refine Ev.run (c' := (359, [.ref 0, .ref 1, .int x2, .int x3, .int x4, .int x5, .int x6, .int x7, .int x8, .int x9, .int x10, .int x11, .int x12, .int x13, .int x14, .int x15, u16, u17, u18, u19], [.int x15], hp E w)) hM_83 1 rfl ?_
  refine Ev.ifF hM_83 rfl (cI_ltF c1) ?_
  refine Ev.run (c' := (380, [.ref 0, .ref 1, .int x2, .int x3, .int x4, .int x5, .int x6, .int x7, .int x8, .int x9, .int x10, .int x11, .int x12, .int x13, .int x14, .int x15, .int (x15 / (10 : Int32)), .int (x15 - x15 / (10 : Int32) * (10 : Int32)), u18, u19], [.int x9, .int (x15 / (10 : Int32))], hp E w)) hM_83 10 rfl ?_
  refine Ev.icF hM_83 rfl (cI_eqF c2) ?_
  refine Ev.run (c' := (387, [.ref 0, .ref 1, .int x2, .int x3, .int x4, .int x5, .int x6, .int x7, .int x8, .int x9, .int x10, .int x11, .int x12, .int x13, .int x14, .int x15, .int (x15 / (10 : Int32)), .int (x15 - x15 / (10 : Int32) * (10 : Int32)), u18, u19], [.int x9, .int (x15 - x15 / (10 : Int32) * (10 : Int32))], hp E w)) hM_83 2 rfl ?_
  refine Ev.icF hM_83 rfl (cI_neF c3) ?_
  refine Ev.run (c' := (399, [.ref 0, .ref 1, .int x2, .int x3, .int x4, .int x5, .int x6, .int x7, .int x8, .int x9, .int x10, .int x11, .int x12, .int x13, .int x14, .int x15, .int (x15 / (10 : Int32)), .int (x15 - x15 / (10 : Int32) * (10 : Int32)), .int (1 : Int32), u19], [.int (1 : Int32)], hp E w)) hM_83 4 rfl ?_
  refine Ev.ifF hM_83 rfl (by decide) ?_
  refine Ev.run (c' := (421, [.ref 0, .ref 1, .int x2, .int x3, .int x4, .int x5, .int x6, .int x7, .int x8, .int x9, .int x10, .int x11, .int x12, .int x13, .int x14, .int x15, .int (x15 / (10 : Int32)), .int (x15 - x15 / (10 : Int32) * (10 : Int32)), .int (1 : Int32), .int x9], [.int (1 : Int32)], hp E w)) hM_83 4 rfl ?_
  refine Ev.ifF hM_83 rfl (by decide) ?_
  refine Ev.run (c' := (427, [.ref 0, .ref 1, .int x2, .int x3, .int x4, .int x5, .int x6, .int x7, .int x8, .int x9, .int x10, .int x11, .int x12, .int x13, .int x14, .int x15, .int (x15 / (10 : Int32)), .int (x15 - x15 / (10 : Int32) * (10 : Int32)), .int (1 : Int32), .int x9], [.int (1 : Int32), .int x11], hp E w)) hM_83 2 rfl ?_
  refine Ev.icT hM_83 rfl (cI_eqT c4) ?_
  refine Ev.run (c' := (452, [.ref 0, .ref 1, .int x2, .int x3, .int x4, .int x5, .int x6, .int x7, .int x8, .int x9, .int x10, .int x11, .int x12, .int x13, .int x14, .int x15, .int (x15 / (10 : Int32)), .int (x15 - x15 / (10 : Int32) * (10 : Int32)), .int (1 : Int32), .int x9], [], hp E w)) hM_83 0 rfl ?_
  exact e
theorem p83_357_d {E : Nat × (Nat → Int32)} {w : Wd} {d : Nat} {x2 x3 x4 x5 x6 x7 x8 x9 x10 x11 x12 x13 x14 x15 : Int32} {u16 u17 u18 u19 : Value} {o : Ou} {z1 : Int32} {z2 : Int32} {w1 : Wd} {v1 : Int32} {z3 : Int32} {z4 : Int32} {w2 : Wd} {v2 : Int32} (hd : 1 ≤ d) (c1 : ¬ x15 < 0) (c2 : ¬ (x15 / (10 : Int32)) = x9) (c3 : ¬ (x15 - x15 / (10 : Int32) * (10 : Int32)) = x9) (a1 : (x15 / (10 : Int32)) = z1) (a2 : (x15 - x15 / (10 : Int32) * (10 : Int32)) = z2) (h1 : Ev (d - 1) 65 (ent0 65 [.ref 1, .int z1, .int z2, .int x9] (hp E w)) (.inl (some (.int v1)), hp E w1)) (a3 : (x15 / (10 : Int32)) = z3) (a4 : (x15 - x15 / (10 : Int32) * (10 : Int32)) = z4) (h2 : Ev (d - 1) 63 (ent0 63 [.ref 1, .int z3, .int z4, .int v1] (hp E w1)) (.inl (some (.int v2)), hp E w2)) (c4 : v2 = (x11 - (1 : Int32))) (e : Ev d 83 (452, [.ref 0, .ref 1, .int x2, .int x3, .int x4, .int x5, .int x6, .int x7, .int x8, .int x9, .int x10, .int x11, .int x12, .int x13, .int x14, .int x15, .int (x15 / (10 : Int32)), .int (x15 - x15 / (10 : Int32) * (10 : Int32)), .int (0 : Int32), .int v1], [], hp E w2) o) : Ev d 83 (357, [.ref 0, .ref 1, .int x2, .int x3, .int x4, .int x5, .int x6, .int x7, .int x8, .int x9, .int x10, .int x11, .int x12, .int x13, .int x14, .int x15, u16, u17, u18, u19], [], hp E w) o := by
  refine Ev.run (c' := (359, [.ref 0, .ref 1, .int x2, .int x3, .int x4, .int x5, .int x6, .int x7, .int x8, .int x9, .int x10, .int x11, .int x12, .int x13, .int x14, .int x15, u16, u17, u18, u19], [.int x15], hp E w)) hM_83 1 rfl ?_
  refine Ev.ifF hM_83 rfl (cI_ltF c1) ?_
  refine Ev.run (c' := (380, [.ref 0, .ref 1, .int x2, .int x3, .int x4, .int x5, .int x6, .int x7, .int x8, .int x9, .int x10, .int x11, .int x12, .int x13, .int x14, .int x15, .int (x15 / (10 : Int32)), .int (x15 - x15 / (10 : Int32) * (10 : Int32)), u18, u19], [.int x9, .int (x15 / (10 : Int32))], hp E w)) hM_83 10 rfl ?_
  refine Ev.icF hM_83 rfl (cI_eqF c2) ?_
  refine Ev.run (c' := (387, [.ref 0, .ref 1, .int x2, .int x3, .int x4, .int x5, .int x6, .int x7, .int x8, .int x9, .int x10, .int x11, .int x12, .int x13, .int x14, .int x15, .int (x15 / (10 : Int32)), .int (x15 - x15 / (10 : Int32) * (10 : Int32)), u18, u19], [.int x9, .int (x15 - x15 / (10 : Int32) * (10 : Int32))], hp E w)) hM_83 2 rfl ?_
  refine Ev.icT hM_83 rfl (cI_neT c3) ?_
  refine Ev.run (c' := (399, [.ref 0, .ref 1, .int x2, .int x3, .int x4, .int x5, .int x6, .int x7, .int x8, .int x9, .int x10, .int x11, .int x12, .int x13, .int x14, .int x15, .int (x15 / (10 : Int32)), .int (x15 - x15 / (10 : Int32) * (10 : Int32)), .int (0 : Int32), u19], [.int (0 : Int32)], hp E w)) hM_83 3 rfl ?_
  refine Ev.ifT hM_83 rfl (by decide) ?_
  refine Ev.run (c' := (414, [.ref 0, .ref 1, .int x2, .int x3, .int x4, .int x5, .int x6, .int x7, .int x8, .int x9, .int x10, .int x11, .int x12, .int x13, .int x14, .int x15, .int (x15 / (10 : Int32)), .int (x15 - x15 / (10 : Int32) * (10 : Int32)), .int (0 : Int32), u19], [.int x9, .int (x15 - x15 / (10 : Int32) * (10 : Int32)), .int (x15 / (10 : Int32)), .ref 1], hp E w)) hM_83 4 rfl ?_
  rw [← a1] at h1
  rw [← a2] at h1
  refine Ev.callR hd hM_83 rfl (y := 65) (as := [.ref 1, .int (x15 / (10 : Int32)), .int (x15 - x15 / (10 : Int32) * (10 : Int32)), .int x9]) (rest := []) rfl (Nat.le_of_ble_eq_true rfl) h1 ?_
  refine Ev.run (c' := (421, [.ref 0, .ref 1, .int x2, .int x3, .int x4, .int x5, .int x6, .int x7, .int x8, .int x9, .int x10, .int x11, .int x12, .int x13, .int x14, .int x15, .int (x15 / (10 : Int32)), .int (x15 - x15 / (10 : Int32) * (10 : Int32)), .int (0 : Int32), .int v1], [.int (0 : Int32)], hp E w1)) hM_83 2 rfl ?_
  refine Ev.ifT hM_83 rfl (by decide) ?_
  refine Ev.run (c' := (440, [.ref 0, .ref 1, .int x2, .int x3, .int x4, .int x5, .int x6, .int x7, .int x8, .int x9, .int x10, .int x11, .int x12, .int x13, .int x14, .int x15, .int (x15 / (10 : Int32)), .int (x15 - x15 / (10 : Int32) * (10 : Int32)), .int (0 : Int32), .int v1], [.int v1, .int (x15 - x15 / (10 : Int32) * (10 : Int32)), .int (x15 / (10 : Int32)), .ref 1], hp E w1)) hM_83 4 rfl ?_
  rw [← a3] at h2
  rw [← a4] at h2
  refine Ev.callR hd hM_83 rfl (y := 63) (as := [.ref 1, .int (x15 / (10 : Int32)), .int (x15 - x15 / (10 : Int32) * (10 : Int32)), .int v1]) (rest := []) rfl (Nat.le_of_ble_eq_true rfl) h2 ?_
  refine Ev.run (c' := (447, [.ref 0, .ref 1, .int x2, .int x3, .int x4, .int x5, .int x6, .int x7, .int x8, .int x9, .int x10, .int x11, .int x12, .int x13, .int x14, .int x15, .int (x15 / (10 : Int32)), .int (x15 - x15 / (10 : Int32) * (10 : Int32)), .int (0 : Int32), .int v1], [.int (x11 - (1 : Int32)), .int v2], hp E w2)) hM_83 3 rfl ?_
  refine Ev.icT hM_83 rfl (cI_eqT c4) ?_
  refine Ev.run (c' := (452, [.ref 0, .ref 1, .int x2, .int x3, .int x4, .int x5, .int x6, .int x7, .int x8, .int x9, .int x10, .int x11, .int x12, .int x13, .int x14, .int x15, .int (x15 / (10 : Int32)), .int (x15 - x15 / (10 : Int32) * (10 : Int32)), .int (0 : Int32), .int v1], [], hp E w2)) hM_83 0 rfl ?_
  exact e
theorem p83_357_e {E : Nat × (Nat → Int32)} {w : Wd} {d : Nat} {x2 x3 x4 x5 x6 x7 x8 x9 x10 x11 x12 x13 x14 x15 : Int32} {u16 u17 u18 u19 : Value} {o : Ou}  (c1 : ¬ x15 < 0) (c2 : (x15 / (10 : Int32)) = x9) (c3 : x11 = (1 : Int32)) (e : Ev d 83 (452, [.ref 0, .ref 1, .int x2, .int x3, .int x4, .int x5, .int x6, .int x7, .int x8, .int x9, .int x10, .int x11, .int x12, .int x13, .int x14, .int x15, .int (x15 / (10 : Int32)), .int (x15 - x15 / (10 : Int32) * (10 : Int32)), .int (1 : Int32), .int x9], [], hp E w) o) : Ev d 83 (357, [.ref 0, .ref 1, .int x2, .int x3, .int x4, .int x5, .int x6, .int x7, .int x8, .int x9, .int x10, .int x11, .int x12, .int x13, .int x14, .int x15, u16, u17, u18, u19], [], hp E w) o := by
  refine Ev.run (c' := (359, [.ref 0, .ref 1, .int x2, .int x3, .int x4, .int x5, .int x6, .int x7, .int x8, .int x9, .int x10, .int x11, .int x12, .int x13, .int x14, .int x15, u16, u17, u18, u19], [.int x15], hp E w)) hM_83 1 rfl ?_
  refine Ev.ifF hM_83 rfl (cI_ltF c1) ?_
  refine Ev.run (c' := (380, [.ref 0, .ref 1, .int x2, .int x3, .int x4, .int x5, .int x6, .int x7, .int x8, .int x9, .int x10, .int x11, .int x12, .int x13, .int x14, .int x15, .int (x15 / (10 : Int32)), .int (x15 - x15 / (10 : Int32) * (10 : Int32)), u18, u19], [.int x9, .int (x15 / (10 : Int32))], hp E w)) hM_83 10 rfl ?_
  refine Ev.icT hM_83 rfl (cI_eqT c2) ?_
  refine Ev.run (c' := (399, [.ref 0, .ref 1, .int x2, .int x3, .int x4, .int x5, .int x6, .int x7, .int x8, .int x9, .int x10, .int x11, .int x12, .int x13, .int x14, .int x15, .int (x15 / (10 : Int32)), .int (x15 - x15 / (10 : Int32) * (10 : Int32)), .int (1 : Int32), u19], [.int (1 : Int32)], hp E w)) hM_83 4 rfl ?_
  refine Ev.ifF hM_83 rfl (by decide) ?_
  refine Ev.run (c' := (421, [.ref 0, .ref 1, .int x2, .int x3, .int x4, .int x5, .int x6, .int x7, .int x8, .int x9, .int x10, .int x11, .int x12, .int x13, .int x14, .int x15, .int (x15 / (10 : Int32)), .int (x15 - x15 / (10 : Int32) * (10 : Int32)), .int (1 : Int32), .int x9], [.int (1 : Int32)], hp E w)) hM_83 4 rfl ?_
  refine Ev.ifF hM_83 rfl (by decide) ?_
  refine Ev.run (c' := (427, [.ref 0, .ref 1, .int x2, .int x3, .int x4, .int x5, .int x6, .int x7, .int x8, .int x9, .int x10, .int x11, .int x12, .int x13, .int x14, .int x15, .int (x15 / (10 : Int32)), .int (x15 - x15 / (10 : Int32) * (10 : Int32)), .int (1 : Int32), .int x9], [.int (1 : Int32), .int x11], hp E w)) hM_83 2 rfl ?_
  refine Ev.icT hM_83 rfl (cI_eqT c3) ?_
  refine Ev.run (c' := (452, [.ref 0, .ref 1, .int x2, .int x3, .int x4, .int x5, .int x6, .int x7, .int x8, .int x9, .int x10, .int x11, .int x12, .int x13, .int x14, .int x15, .int (x15 / (10 : Int32)), .int (x15 - x15 / (10 : Int32) * (10 : Int32)), .int (1 : Int32), .int x9], [], hp E w)) hM_83 0 rfl ?_
  exact e
theorem p83_357_f {E : Nat × (Nat → Int32)} {w : Wd} {d : Nat} {x2 x3 x4 x5 x6 x7 x8 x9 x10 x11 x12 x13 x14 x15 : Int32} {u16 u17 u18 u19 : Value} {o : Ou}  (c1 : x15 < 0) (e : Ev d 83 (452, [.ref 0, .ref 1, .int x2, .int x3, .int x4, .int x5, .int x6, .int x7, .int x8, .int x9, .int x10, .int x11, .int x12, .int x13, .int x14, .int x15, u16, u17, u18, u19], [], hp E w) o) : Ev d 83 (357, [.ref 0, .ref 1, .int x2, .int x3, .int x4, .int x5, .int x6, .int x7, .int x8, .int x9, .int x10, .int x11, .int x12, .int x13, .int x14, .int x15, u16, u17, u18, u19], [], hp E w) o := by
  refine Ev.run (c' := (359, [.ref 0, .ref 1, .int x2, .int x3, .int x4, .int x5, .int x6, .int x7, .int x8, .int x9, .int x10, .int x11, .int x12, .int x13, .int x14, .int x15, u16, u17, u18, u19], [.int x15], hp E w)) hM_83 1 rfl ?_
  refine Ev.ifT hM_83 rfl (cI_ltT c1) ?_
  refine Ev.run (c' := (452, [.ref 0, .ref 1, .int x2, .int x3, .int x4, .int x5, .int x6, .int x7, .int x8, .int x9, .int x10, .int x11, .int x12, .int x13, .int x14, .int x15, u16, u17, u18, u19], [], hp E w)) hM_83 0 rfl ?_
  exact e
theorem p83_452_d {E : Nat × (Nat → Int32)} {w : Wd} {d : Nat} {x2 x3 x4 x5 x6 x7 x8 x9 x10 x11 x12 x13 x14 x15 : Int32} {u16 u17 u18 u19 : Value} {o : Ou} {w1 : Wd} {v1 : Int32} {w2 : Wd} {v2 : Int32} {w3 : Wd} {v3 : Int32} {w4 : Wd} {v4 : Int32} (hd : 1 ≤ d) (h1 : Ev (d - 1) 66 (ent0 66 [.ref 1, .int (1 : Int32)] (hp E w)) (.inl (some (.int v1)), hp E w1)) (h2 : Ev (d - 1) 67 (ent0 67 [.ref 1] (hp E w1)) (.inl (some (.int v2)), hp E w2)) (c1 : v1 = v2) (h3 : Ev (d - 1) 66 (ent0 66 [.ref 1, .int (1 : Int32)] (hp E w2)) (.inl (some (.int v3)), hp E w3)) (c2 : ¬ v3 = 0) (h4 : Ev (d - 1) 66 (ent0 66 [.ref 1, .int (2 : Int32)] (hp E w3)) (.inl (some (.int v4)), hp E w4)) (c3 : ¬ v4 = 0) (e : Ev d 83 (484, [.ref 0, .ref 1, .int x2, .int x3, .int x4, .int x5, .int x6, .int x7, .int x8, .int x9, .int x10, .int x11, .int x12, .int x13, .int x14, .int x15, u16, u17, u18, u19], [], hp E w4) o) : Ev d 83 (452, [.ref 0, .ref 1, .int x2, .int x3, .int x4, .int x5, .int x6, .int x7, .int x8, .int x9, .int x10, .int x11, .int x12, .int x13, .int x14, .int x15, u16, u17, u18, u19], [], hp E w) o := by
  refine Ev.run (c' := (454, [.ref 0, .ref 1, .int x2, .int x3, .int x4, .int x5, .int x6, .int x7, .int x8, .int x9, .int x10, .int x11, .int x12, .int x13, .int x14, .int x15, u16, u17, u18, u19], [.int (1 : Int32), .ref 1], hp E w)) hM_83 2 rfl ?_
  refine Ev.callR hd hM_83 rfl (y := 66) (as := [.ref 1, .int (1 : Int32)]) (rest := []) rfl (Nat.le_of_ble_eq_true rfl) h1 ?_
  refine Ev.run (c' := (458, [.ref 0, .ref 1, .int x2, .int x3, .int x4, .int x5, .int x6, .int x7, .int x8, .int x9, .int x10, .int x11, .int x12, .int x13, .int x14, .int x15, u16, u17, u18, u19], [.ref 1, .int v1], hp E w1)) hM_83 1 rfl ?_
  refine Ev.callR hd hM_83 rfl (y := 67) (as := [.ref 1]) (rest := [.int v1]) rfl (Nat.le_of_ble_eq_true rfl) h2 ?_
  refine Ev.run (c' := (461, [.ref 0, .ref 1, .int x2, .int x3, .int x4, .int x5, .int x6, .int x7, .int x8, .int x9, .int x10, .int x11, .int x12, .int x13, .int x14, .int x15, u16, u17, u18, u19], [.int v2, .int v1], hp E w2)) hM_83 0 rfl ?_
  refine Ev.icT hM_83 rfl (cI_eqT c1) ?_
  refine Ev.run (c' := (468, [.ref 0, .ref 1, .int x2, .int x3, .int x4, .int x5, .int x6, .int x7, .int x8, .int x9, .int x10, .int x11, .int x12, .int x13, .int x14, .int x15, u16, u17, u18, u19], [.int (1 : Int32), .ref 1], hp E w2)) hM_83 2 rfl ?_
  refine Ev.callR hd hM_83 rfl (y := 66) (as := [.ref 1, .int (1 : Int32)]) (rest := []) rfl (Nat.le_of_ble_eq_true rfl) h3 ?_
  refine Ev.run (c' := (471, [.ref 0, .ref 1, .int x2, .int x3, .int x4, .int x5, .int x6, .int x7, .int x8, .int x9, .int x10, .int x11, .int x12, .int x13, .int x14, .int x15, u16, u17, u18, u19], [.int v3], hp E w3)) hM_83 0 rfl ?_
  refine Ev.ifF hM_83 rfl (cI_eqF c2) ?_
  refine Ev.run (c' := (476, [.ref 0, .ref 1, .int x2, .int x3, .int x4, .int x5, .int x6, .int x7, .int x8, .int x9, .int x10, .int x11, .int x12, .int x13, .int x14, .int x15, u16, u17, u18, u19], [.int (2 : Int32), .ref 1], hp E w3)) hM_83 2 rfl ?_
  refine Ev.callR hd hM_83 rfl (y := 66) (as := [.ref 1, .int (2 : Int32)]) (rest := []) rfl (Nat.le_of_ble_eq_true rfl) h4 ?_
  refine Ev.run (c' := (479, [.ref 0, .ref 1, .int x2, .int x3, .int x4, .int x5, .int x6, .int x7, .int x8, .int x9, .int x10, .int x11, .int x12, .int x13, .int x14, .int x15, u16, u17, u18, u19], [.int v4], hp E w4)) hM_83 0 rfl ?_
  refine Ev.ifT hM_83 rfl (cI_neT c3) ?_
  refine Ev.run (c' := (484, [.ref 0, .ref 1, .int x2, .int x3, .int x4, .int x5, .int x6, .int x7, .int x8, .int x9, .int x10, .int x11, .int x12, .int x13, .int x14, .int x15, u16, u17, u18, u19], [], hp E w4)) hM_83 0 rfl ?_
  exact e
theorem p83_452_e {E : Nat × (Nat → Int32)} {w : Wd} {d : Nat} {x2 x3 x4 x5 x6 x7 x8 x9 x10 x11 x12 x13 x14 x15 : Int32} {u16 u17 u18 u19 : Value} {o : Ou} {w1 : Wd} {v1 : Int32} {w2 : Wd} {v2 : Int32} {w3 : Wd} {v3 : Int32} (hd : 1 ≤ d) (h1 : Ev (d - 1) 66 (ent0 66 [.ref 1, .int (1 : Int32)] (hp E w)) (.inl (some (.int v1)), hp E w1)) (h2 : Ev (d - 1) 67 (ent0 67 [.ref 1] (hp E w1)) (.inl (some (.int v2)), hp E w2)) (c1 : v1 = v2) (h3 : Ev (d - 1) 66 (ent0 66 [.ref 1, .int (1 : Int32)] (hp E w2)) (.inl (some (.int v3)), hp E w3)) (c2 : v3 = 0) (e : Ev d 83 (484, [.ref 0, .ref 1, .int x2, .int x3, .int x4, .int x5, .int x6, .int x7, .int x8, .int x9, .int x10, .int x11, .int x12, .int x13, .int x14, .int x15, u16, u17, u18, u19], [], hp E w3) o) : Ev d 83 (452, [.ref 0, .ref 1, .int x2, .int x3, .int x4, .int x5, .int x6, .int x7, .int x8, .int x9, .int x10, .int x11, .int x12, .int x13, .int x14, .int x15, u16, u17, u18, u19], [], hp E w) o := by
  refine Ev.run (c' := (454, [.ref 0, .ref 1, .int x2, .int x3, .int x4, .int x5, .int x6, .int x7, .int x8, .int x9, .int x10, .int x11, .int x12, .int x13, .int x14, .int x15, u16, u17, u18, u19], [.int (1 : Int32), .ref 1], hp E w)) hM_83 2 rfl ?_
  refine Ev.callR hd hM_83 rfl (y := 66) (as := [.ref 1, .int (1 : Int32)]) (rest := []) rfl (Nat.le_of_ble_eq_true rfl) h1 ?_
  refine Ev.run (c' := (458, [.ref 0, .ref 1, .int x2, .int x3, .int x4, .int x5, .int x6, .int x7, .int x8, .int x9, .int x10, .int x11, .int x12, .int x13, .int x14, .int x15, u16, u17, u18, u19], [.ref 1, .int v1], hp E w1)) hM_83 1 rfl ?_
  refine Ev.callR hd hM_83 rfl (y := 67) (as := [.ref 1]) (rest := [.int v1]) rfl (Nat.le_of_ble_eq_true rfl) h2 ?_
  refine Ev.run (c' := (461, [.ref 0, .ref 1, .int x2, .int x3, .int x4, .int x5, .int x6, .int x7, .int x8, .int x9, .int x10, .int x11, .int x12, .int x13, .int x14, .int x15, u16, u17, u18, u19], [.int v2, .int v1], hp E w2)) hM_83 0 rfl ?_
  refine Ev.icT hM_83 rfl (cI_eqT c1) ?_
  refine Ev.run (c' := (468, [.ref 0, .ref 1, .int x2, .int x3, .int x4, .int x5, .int x6, .int x7, .int x8, .int x9, .int x10, .int x11, .int x12, .int x13, .int x14, .int x15, u16, u17, u18, u19], [.int (1 : Int32), .ref 1], hp E w2)) hM_83 2 rfl ?_
  refine Ev.callR hd hM_83 rfl (y := 66) (as := [.ref 1, .int (1 : Int32)]) (rest := []) rfl (Nat.le_of_ble_eq_true rfl) h3 ?_
  refine Ev.run (c' := (471, [.ref 0, .ref 1, .int x2, .int x3, .int x4, .int x5, .int x6, .int x7, .int x8, .int x9, .int x10, .int x11, .int x12, .int x13, .int x14, .int x15, u16, u17, u18, u19], [.int v3], hp E w3)) hM_83 0 rfl ?_
  refine Ev.ifT hM_83 rfl (cI_eqT c2) ?_
  refine Ev.run (c' := (484, [.ref 0, .ref 1, .int x2, .int x3, .int x4, .int x5, .int x6, .int x7, .int x8, .int x9, .int x10, .int x11, .int x12, .int x13, .int x14, .int x15, u16, u17, u18, u19], [], hp E w3)) hM_83 0 rfl ?_
  exact e
theorem p83_484_a {E : Nat × (Nat → Int32)} {w : Wd} {d : Nat} {x2 x3 x4 x5 x6 : Int32} {u7 u8 u9 u10 u11 u12 u13 u14 u15 u16 u17 u18 u19 : Value} {o : Ou} {y3 : Int32} (q3 : (x3 + (1 : Int32)) = y3) (e : Ev d 83 (32, [.ref 0, .ref 1, .int x2, .int y3, .int x4, .int x5, .int x6, u7, u8, u9, u10, u11, u12, u13, u14, u15, u16, u17, u18, u19], [], hp E w) o) : Ev d 83 (484, [.ref 0, .ref 1, .int x2, .int x3, .int x4, .int x5, .int x6, u7, u8, u9, u10, u11, u12, u13, u14, u15, u16, u17, u18, u19], [], hp E w) o := by
  subst q3
  refine Ev.run (c' := (32, [.ref 0, .ref 1, .int x2, .int (x3 + (1 : Int32)), .int x4, .int x5, .int x6, u7, u8, u9, u10, u11, u12, u13, u14, u15, u16, u17, u18, u19], [], hp E w)) hM_83 2 rfl ?_
  exact e
theorem p83_498_c {E : Nat × (Nat → Int32)} {w : Wd} {d : Nat} {x2 x3 x4 : Int32} {u5 u6 u7 u8 u9 u10 u11 u12 u13 u14 u15 u16 u17 u18 u19 : Value} {o : Ou} {w1 : Wd} {v1 : Int32} {w2 : Wd} {v2 : Int32} {w3 : Wd} {v3 : Int32} {y4 : Int32} (hd : 1 ≤ d) (c1 : ¬ (gF w 0) = 0) (c2 : x4 < x3) (h1 : Ev (d - 1) 70 (ent0 70 [.ref 1] (hp E w)) (.inl (some (.int v1)), hp E w1)) (c3 : ¬ v1 < 0) (h2 : Ev (d - 1) 61 (ent0 61 [.ref 1, .int v1] (hp E w1)) (.inl (some (.int v2)), hp E w2)) (h3 : Ev (d - 1) 69 (ent0 69 [.ref 1] (hp E w2)) (.inl (some (.int v3)), hp E w3)) (c4 : v3 = (x3 - (x4 + (1 : Int32)))) (q4 : (x4 + (1 : Int32)) = y4) (e : Ev d 83 (498, [.ref 0, .ref 1, .int x2, .int x3, .int y4, .int v1, u6, u7, u8, u9, u10, u11, u12, u13, u14, u15, u16, u17, u18, u19], [], hp E w3) o) : Ev d 83 (498, [.ref 0, .ref 1, .int x2, .int x3, .int x4, u5, u6, u7, u8, u9, u10, u11, u12, u13, u14, u15, u16, u17, u18, u19], [], hp E w) o := by
  subst q4
  refine Ev.run (c' := (499, [.ref 0, .ref 1, .int x2, .int x3, .int x4, u5, u6, u7, u8, u9, u10, u11, u12, u13, u14, u15, u16, u17, u18, u19], [.ref 1], hp E w)) hM_83 1 rfl ?_
  refine Ev.callR hd hM_83 rfl (y := 68) (as := [.ref 1]) (rest := []) rfl (Nat.le_of_ble_eq_true rfl) (Ev.run (c' := (4, [.ref 1], [.int (gF w 0)], hp E w)) hM_68 2 rfl (Ev.fin hM_68 rfl rfl)) ?_
  refine Ev.run (c' := (502, [.ref 0, .ref 1, .int x2, .int x3, .int x4, u5, u6, u7, u8, u9, u10, u11, u12, u13, u14, u15, u16, u17, u18, u19], [.int (gF w 0)], hp E w)) hM_83 0 rfl ?_
  refine Ev.ifF hM_83 rfl (cI_eqF c1) ?_
  refine Ev.run (c' := (508, [.ref 0, .ref 1, .int x2, .int x3, .int x4, u5, u6, u7, u8, u9, u10, u11, u12, u13, u14, u15, u16, u17, u18, u19], [.int x3, .int x4], hp E w)) hM_83 2 rfl ?_
  refine Ev.icF hM_83 rfl (cI_geF c2) ?_
  refine Ev.run (c' := (512, [.ref 0, .ref 1, .int x2, .int x3, .int x4, u5, u6, u7, u8, u9, u10, u11, u12, u13, u14, u15, u16, u17, u18, u19], [.ref 1], hp E w)) hM_83 1 rfl ?_
  refine Ev.callR hd hM_83 rfl (y := 70) (as := [.ref 1]) (rest := []) rfl (Nat.le_of_ble_eq_true rfl) h1 ?_
  refine Ev.run (c' := (519, [.ref 0, .ref 1, .int x2, .int x3, .int x4, .int v1, u6, u7, u8, u9, u10, u11, u12, u13, u14, u15, u16, u17, u18, u19], [.int v1], hp E w1)) hM_83 2 rfl ?_
  refine Ev.ifT hM_83 rfl (cI_geT c3) ?_
  refine Ev.run (c' := (527, [.ref 0, .ref 1, .int x2, .int x3, .int x4, .int v1, u6, u7, u8, u9, u10, u11, u12, u13, u14, u15, u16, u17, u18, u19], [.int v1, .ref 1], hp E w1)) hM_83 2 rfl ?_
  refine Ev.callR hd hM_83 rfl (y := 61) (as := [.ref 1, .int v1]) (rest := []) rfl (Nat.le_of_ble_eq_true rfl) h2 ?_
  refine Ev.run (c' := (535, [.ref 0, .ref 1, .int x2, .int x3, .int (x4 + (1 : Int32)), .int v1, u6, u7, u8, u9, u10, u11, u12, u13, u14, u15, u16, u17, u18, u19], [.ref 1], hp E w2)) hM_83 3 rfl ?_
  refine Ev.callR hd hM_83 rfl (y := 69) (as := [.ref 1]) (rest := []) rfl (Nat.le_of_ble_eq_true rfl) h3 ?_
  refine Ev.run (c' := (542, [.ref 0, .ref 1, .int x2, .int x3, .int (x4 + (1 : Int32)), .int v1, u6, u7, u8, u9, u10, u11, u12, u13, u14, u15, u16, u17, u18, u19], [.int (x3 - (x4 + (1 : Int32))), .int v3], hp E w3)) hM_83 3 rfl ?_
  refine Ev.icT hM_83 rfl (cI_eqT c4) ?_
  refine Ev.run (c' := (498, [.ref 0, .ref 1, .int x2, .int x3, .int (x4 + (1 : Int32)), .int v1, u6, u7, u8, u9, u10, u11, u12, u13, u14, u15, u16, u17, u18, u19], [], hp E w3)) hM_83 1 rfl ?_
  exact e
theorem p83_498_d {E : Nat × (Nat → Int32)} {w : Wd} {d : Nat} {x2 x3 x4 : Int32} {u5 u6 u7 u8 u9 u10 u11 u12 u13 u14 u15 u16 u17 u18 u19 : Value} {o : Ou}  (hd : 1 ≤ d) (c1 : ¬ (gF w 0) = 0) (c2 : ¬ x4 < x3) (e : Ev d 83 (550, [.ref 0, .ref 1, .int x2, .int x3, .int x4, u5, u6, u7, u8, u9, u10, u11, u12, u13, u14, u15, u16, u17, u18, u19], [], hp E w) o) : Ev d 83 (498, [.ref 0, .ref 1, .int x2, .int x3, .int x4, u5, u6, u7, u8, u9, u10, u11, u12, u13, u14, u15, u16, u17, u18, u19], [], hp E w) o := by
  refine Ev.run (c' := (499, [.ref 0, .ref 1, .int x2, .int x3, .int x4, u5, u6, u7, u8, u9, u10, u11, u12, u13, u14, u15, u16, u17, u18, u19], [.ref 1], hp E w)) hM_83 1 rfl ?_
  refine Ev.callR hd hM_83 rfl (y := 68) (as := [.ref 1]) (rest := []) rfl (Nat.le_of_ble_eq_true rfl) (Ev.run (c' := (4, [.ref 1], [.int (gF w 0)], hp E w)) hM_68 2 rfl (Ev.fin hM_68 rfl rfl)) ?_
  refine Ev.run (c' := (502, [.ref 0, .ref 1, .int x2, .int x3, .int x4, u5, u6, u7, u8, u9, u10, u11, u12, u13, u14, u15, u16, u17, u18, u19], [.int (gF w 0)], hp E w)) hM_83 0 rfl ?_
  refine Ev.ifF hM_83 rfl (cI_eqF c1) ?_
  refine Ev.run (c' := (508, [.ref 0, .ref 1, .int x2, .int x3, .int x4, u5, u6, u7, u8, u9, u10, u11, u12, u13, u14, u15, u16, u17, u18, u19], [.int x3, .int x4], hp E w)) hM_83 2 rfl ?_
  refine Ev.icT hM_83 rfl (cI_geT c2) ?_
  refine Ev.run (c' := (550, [.ref 0, .ref 1, .int x2, .int x3, .int x4, u5, u6, u7, u8, u9, u10, u11, u12, u13, u14, u15, u16, u17, u18, u19], [], hp E w)) hM_83 0 rfl ?_
  exact e
theorem p83_498_e {E : Nat × (Nat → Int32)} {w : Wd} {d : Nat} {x2 x3 x4 : Int32} {u5 u6 u7 u8 u9 u10 u11 u12 u13 u14 u15 u16 u17 u18 u19 : Value} {o : Ou}  (hd : 1 ≤ d) (c1 : (gF w 0) = 0) (e : Ev d 83 (550, [.ref 0, .ref 1, .int x2, .int x3, .int x4, u5, u6, u7, u8, u9, u10, u11, u12, u13, u14, u15, u16, u17, u18, u19], [], hp E w) o) : Ev d 83 (498, [.ref 0, .ref 1, .int x2, .int x3, .int x4, u5, u6, u7, u8, u9, u10, u11, u12, u13, u14, u15, u16, u17, u18, u19], [], hp E w) o := by
  refine Ev.run (c' := (499, [.ref 0, .ref 1, .int x2, .int x3, .int x4, u5, u6, u7, u8, u9, u10, u11, u12, u13, u14, u15, u16, u17, u18, u19], [.ref 1], hp E w)) hM_83 1 rfl ?_
  refine Ev.callR hd hM_83 rfl (y := 68) (as := [.ref 1]) (rest := []) rfl (Nat.le_of_ble_eq_true rfl) (Ev.run (c' := (4, [.ref 1], [.int (gF w 0)], hp E w)) hM_68 2 rfl (Ev.fin hM_68 rfl rfl)) ?_
  refine Ev.run (c' := (502, [.ref 0, .ref 1, .int x2, .int x3, .int x4, u5, u6, u7, u8, u9, u10, u11, u12, u13, u14, u15, u16, u17, u18, u19], [.int (gF w 0)], hp E w)) hM_83 0 rfl ?_
  refine Ev.ifT hM_83 rfl (cI_eqT c1) ?_
  refine Ev.run (c' := (550, [.ref 0, .ref 1, .int x2, .int x3, .int x4, u5, u6, u7, u8, u9, u10, u11, u12, u13, u14, u15, u16, u17, u18, u19], [], hp E w)) hM_83 0 rfl ?_
  exact e
theorem p83_550_a {E : Nat × (Nat → Int32)} {w : Wd} {d : Nat} {x2 x3 x4 : Int32} {u5 u6 u7 u8 u9 u10 u11 u12 u13 u14 u15 u16 u17 u18 u19 : Value} {o : Ou}  (hd : 1 ≤ d) (c1 : ¬ x3 < 0) (c2 : (gF w 0) = 0) (e : Ev d 83 (563, [.ref 0, .ref 1, .int x2, .int x3, .int x4, u5, u6, u7, u8, u9, u10, u11, u12, u13, u14, u15, u16, u17, u18, u19], [], hp E w) o) : Ev d 83 (550, [.ref 0, .ref 1, .int x2, .int x3, .int x4, u5, u6, u7, u8, u9, u10, u11, u12, u13, u14, u15, u16, u17, u18, u19], [], hp E w) o := by
  refine Ev.run (c' := (551, [.ref 0, .ref 1, .int x2, .int x3, .int x4, u5, u6, u7, u8, u9, u10, u11, u12, u13, u14, u15, u16, u17, u18, u19], [.int x3], hp E w)) hM_83 1 rfl ?_
  refine Ev.ifF hM_83 rfl (cI_ltF c1) ?_
  refine Ev.run (c' := (555, [.ref 0, .ref 1, .int x2, .int x3, .int x4, u5, u6, u7, u8, u9, u10, u11, u12, u13, u14, u15, u16, u17, u18, u19], [.ref 1], hp E w)) hM_83 1 rfl ?_
  refine Ev.callR hd hM_83 rfl (y := 68) (as := [.ref 1]) (rest := []) rfl (Nat.le_of_ble_eq_true rfl) (Ev.run (c' := (4, [.ref 1], [.int (gF w 0)], hp E w)) hM_68 2 rfl (Ev.fin hM_68 rfl rfl)) ?_
  refine Ev.run (c' := (558, [.ref 0, .ref 1, .int x2, .int x3, .int x4, u5, u6, u7, u8, u9, u10, u11, u12, u13, u14, u15, u16, u17, u18, u19], [.int (gF w 0)], hp E w)) hM_83 0 rfl ?_
  refine Ev.ifT hM_83 rfl (cI_eqT c2) ?_
  refine Ev.run (c' := (563, [.ref 0, .ref 1, .int x2, .int x3, .int x4, u5, u6, u7, u8, u9, u10, u11, u12, u13, u14, u15, u16, u17, u18, u19], [], hp E w)) hM_83 0 rfl ?_
  exact e
theorem p83_550_b {E : Nat × (Nat → Int32)} {w : Wd} {d : Nat} {x2 x3 x4 : Int32} {u5 u6 u7 u8 u9 u10 u11 u12 u13 u14 u15 u16 u17 u18 u19 : Value} {o : Ou}  (c1 : x3 < 0) (e : Ev d 83 (563, [.ref 0, .ref 1, .int x2, .int x3, .int x4, u5, u6, u7, u8, u9, u10, u11, u12, u13, u14, u15, u16, u17, u18, u19], [], hp E w) o) : Ev d 83 (550, [.ref 0, .ref 1, .int x2, .int x3, .int x4, u5, u6, u7, u8, u9, u10, u11, u12, u13, u14, u15, u16, u17, u18, u19], [], hp E w) o := by
  refine Ev.run (c' := (551, [.ref 0, .ref 1, .int x2, .int x3, .int x4, u5, u6, u7, u8, u9, u10, u11, u12, u13, u14, u15, u16, u17, u18, u19], [.int x3], hp E w)) hM_83 1 rfl ?_
  refine Ev.ifT hM_83 rfl (cI_ltT c1) ?_
  refine Ev.run (c' := (563, [.ref 0, .ref 1, .int x2, .int x3, .int x4, u5, u6, u7, u8, u9, u10, u11, u12, u13, u14, u15, u16, u17, u18, u19], [], hp E w)) hM_83 0 rfl ?_
  exact e
theorem p83_563_a {E : Nat × (Nat → Int32)} {w : Wd} {d : Nat} {x2 x3 x4 : Int32} {u5 u6 u7 u8 u9 u10 u11 u12 u13 u14 u15 u16 u17 u18 u19 : Value} {o : Ou} {w1 : Wd} {v1 : Int32} (hd : 1 ≤ d) (c1 : x3 < 0) (h1 : Ev (d - 1) 70 (ent0 70 [.ref 1] (hp E w)) (.inl (some (.int v1)), hp E w1)) (c2 : v1 = (-1 : Int32)) (e : Ev d 83 (577, [.ref 0, .ref 1, .int x2, .int x3, .int x4, u5, u6, u7, u8, u9, u10, u11, u12, u13, u14, u15, u16, u17, u18, u19], [], hp E w1) o) : Ev d 83 (563, [.ref 0, .ref 1, .int x2, .int x3, .int x4, u5, u6, u7, u8, u9, u10, u11, u12, u13, u14, u15, u16, u17, u18, u19], [], hp E w) o := by
  refine Ev.run (c' := (564, [.ref 0, .ref 1, .int x2, .int x3, .int x4, u5, u6, u7, u8, u9, u10, u11, u12, u13, u14, u15, u16, u17, u18, u19], [.int x3], hp E w)) hM_83 1 rfl ?_
  refine Ev.ifF hM_83 rfl (cI_geF c1) ?_
  refine Ev.run (c' := (568, [.ref 0, .ref 1, .int x2, .int x3, .int x4, u5, u6, u7, u8, u9, u10, u11, u12, u13, u14, u15, u16, u17, u18, u19], [.ref 1], hp E w)) hM_83 1 rfl ?_
  refine Ev.callR hd hM_83 rfl (y := 70) (as := [.ref 1]) (rest := []) rfl (Nat.le_of_ble_eq_true rfl) h1 ?_
  refine Ev.run (c' := (572, [.ref 0, .ref 1, .int x2, .int x3, .int x4, u5, u6, u7, u8, u9, u10, u11, u12, u13, u14, u15, u16, u17, u18, u19], [.int (-1 : Int32), .int v1], hp E w1)) hM_83 1 rfl ?_
  refine Ev.icT hM_83 rfl (cI_eqT c2) ?_
  refine Ev.run (c' := (577, [.ref 0, .ref 1, .int x2, .int x3, .int x4, u5, u6, u7, u8, u9, u10, u11, u12, u13, u14, u15, u16, u17, u18, u19], [], hp E w1)) hM_83 0 rfl ?_
  exact e
theorem p83_563_b {E : Nat × (Nat → Int32)} {w : Wd} {d : Nat} {x2 x3 x4 : Int32} {u5 u6 u7 u8 u9 u10 u11 u12 u13 u14 u15 u16 u17 u18 u19 : Value} {o : Ou}  (c1 : ¬ x3 < 0) (e : Ev d 83 (577, [.ref 0, .ref 1, .int x2, .int x3, .int x4, u5, u6, u7, u8, u9, u10, u11, u12, u13, u14, u15, u16, u17, u18, u19], [], hp E w) o) : Ev d 83 (563, [.ref 0, .ref 1, .int x2, .int x3, .int x4, u5, u6, u7, u8, u9, u10, u11, u12, u13, u14, u15, u16, u17, u18, u19], [], hp E w) o := by
  refine Ev.run (c' := (564, [.ref 0, .ref 1, .int x2, .int x3, .int x4, u5, u6, u7, u8, u9, u10, u11, u12, u13, u14, u15, u16, u17, u18, u19], [.int x3], hp E w)) hM_83 1 rfl ?_
  refine Ev.ifT hM_83 rfl (cI_geT c1) ?_
  refine Ev.run (c' := (577, [.ref 0, .ref 1, .int x2, .int x3, .int x4, u5, u6, u7, u8, u9, u10, u11, u12, u13, u14, u15, u16, u17, u18, u19], [], hp E w)) hM_83 0 rfl ?_
  exact e
theorem p83_577_a {E : Nat × (Nat → Int32)} {w : Wd} {d : Nat} {x2 x3 x4 : Int32} {u5 u6 u7 u8 u9 u10 u11 u12 u13 u14 u15 u16 u17 u18 u19 : Value} {o : Ou}  (e : Ev d 83 (580, [.ref 0, .ref 1, .int x2, .int x3, .int x4, .int (0 : Int32), u6, u7, u8, u9, u10, u11, u12, u13, u14, u15, u16, u17, u18, u19], [], hp E w) o) : Ev d 83 (577, [.ref 0, .ref 1, .int x2, .int x3, .int x4, u5, u6, u7, u8, u9, u10, u11, u12, u13, u14, u15, u16, u17, u18, u19], [], hp E w) o := by
  refine Ev.run (c' := (580, [.ref 0, .ref 1, .int x2, .int x3, .int x4, .int (0 : Int32), u6, u7, u8, u9, u10, u11, u12, u13, u14, u15, u16, u17, u18, u19], [], hp E w)) hM_83 2 rfl ?_
  exact e
theorem p83_580_b {E : Nat × (Nat → Int32)} {w : Wd} {d : Nat} {x2 x3 x4 x5 : Int32} {u6 u7 u8 u9 u10 u11 u12 u13 u14 u15 u16 u17 u18 u19 : Value} {o : Ou} {w1 : Wd} {v1 : Int32} {y5 : Int32} (hd : 1 ≤ d) (c1 : x5 < x4) (h1 : Ev (d - 1) 62 (ent0 62 [.ref 1] (hp E w)) (.inl (some (.int v1)), hp E w1)) (q5 : (x5 + (1 : Int32)) = y5) (e : Ev d 83 (580, [.ref 0, .ref 1, .int x2, .int x3, .int x4, .int y5, u6, u7, u8, u9, u10, u11, u12, u13, u14, u15, u16, u17, u18, u19], [], hp E w1) o) : Ev d 83 (580, [.ref 0, .ref 1, .int x2, .int x3, .int x4, .int x5, u6, u7, u8, u9, u10, u11, u12, u13, u14, u15, u16, u17, u18, u19], [], hp E w) o := by
  subst q5
  refine Ev.run (c' := (584, [.ref 0, .ref 1, .int x2, .int x3, .int x4, .int x5, u6, u7, u8, u9, u10, u11, u12, u13, u14, u15, u16, u17, u18, u19], [.int x4, .int x5], hp E w)) hM_83 2 rfl ?_
  refine Ev.icF hM_83 rfl (cI_geF c1) ?_
  refine Ev.run (c' := (588, [.ref 0, .ref 1, .int x2, .int x3, .int x4, .int x5, u6, u7, u8, u9, u10, u11, u12, u13, u14, u15, u16, u17, u18, u19], [.ref 1], hp E w)) hM_83 1 rfl ?_
  refine Ev.callR hd hM_83 rfl (y := 62) (as := [.ref 1]) (rest := []) rfl (Nat.le_of_ble_eq_true rfl) h1 ?_
  refine Ev.run (c' := (580, [.ref 0, .ref 1, .int x2, .int x3, .int x4, .int (x5 + (1 : Int32)), u6, u7, u8, u9, u10, u11, u12, u13, u14, u15, u16, u17, u18, u19], [], hp E w1)) hM_83 3 rfl ?_
  exact e
theorem p83_580_c {E : Nat × (Nat → Int32)} {w : Wd} {d : Nat} {x2 x3 x4 x5 : Int32} {u6 u7 u8 u9 u10 u11 u12 u13 u14 u15 u16 u17 u18 u19 : Value} {o : Ou}  (c1 : ¬ x5 < x4) (e : Ev d 83 (598, [.ref 0, .ref 1, .int x2, .int x3, .int x4, .int x5, u6, u7, u8, u9, u10, u11, u12, u13, u14, u15, u16, u17, u18, u19], [], hp E w) o) : Ev d 83 (580, [.ref 0, .ref 1, .int x2, .int x3, .int x4, .int x5, u6, u7, u8, u9, u10, u11, u12, u13, u14, u15, u16, u17, u18, u19], [], hp E w) o := by
  refine Ev.run (c' := (584, [.ref 0, .ref 1, .int x2, .int x3, .int x4, .int x5, u6, u7, u8, u9, u10, u11, u12, u13, u14, u15, u16, u17, u18, u19], [.int x4, .int x5], hp E w)) hM_83 2 rfl ?_
  refine Ev.icT hM_83 rfl (cI_geT c1) ?_
  refine Ev.run (c' := (598, [.ref 0, .ref 1, .int x2, .int x3, .int x4, .int x5, u6, u7, u8, u9, u10, u11, u12, u13, u14, u15, u16, u17, u18, u19], [], hp E w)) hM_83 0 rfl ?_
  exact e
theorem p83_598_b {E : Nat × (Nat → Int32)} {w : Wd} {d : Nat} {x2 x3 x4 x5 : Int32} {u6 u7 u8 u9 u10 u11 u12 u13 u14 u15 u16 u17 u18 u19 : Value} {o : Ou} {w1 : Wd} {v1 : Int32} {w2 : Wd} {v2 : Int32} {w3 : Wd} {v3 : Int32} {y6 : Int32} (hd : 1 ≤ d) (h1 : Ev (d - 1) 69 (ent0 69 [.ref 1] (hp E w)) (.inl (some (.int v1)), hp E w1)) (c1 : v1 = x3) (h2 : Ev (d - 1) 72 (ent0 72 [.ref 1] (hp E w1)) (.inl (some (.int v2)), hp E w2)) (h3 : Ev (d - 1) 71 (ent0 71 [.ref 1, .int v2] (hp E w2)) (.inl (some (.int v3)), hp E w3)) (c2 : v3 = (((1 : Int32) <<< (x2 &&& 31)) - (1 : Int32))) (q6 : (((1 : Int32) <<< (x2 &&& 31)) - (1 : Int32)) = y6) (e : Ev d 83 (637, [.ref 0, .ref 1, .int x2, .int x3, .int x4, .int v2, .int y6, .int (0 : Int32), u8, u9, u10, u11, u12, u13, u14, u15, u16, u17, u18, u19], [], hp E w3) o) : Ev d 83 (598, [.ref 0, .ref 1, .int x2, .int x3, .int x4, .int x5, u6, u7, u8, u9, u10, u11, u12, u13, u14, u15, u16, u17, u18, u19], [], hp E w) o := by
  subst q6
  refine Ev.run (c' := (599, [.ref 0, .ref 1, .int x2, .int x3, .int x4, .int x5, u6, u7, u8, u9, u10, u11, u12, u13, u14, u15, u16, u17, u18, u19], [.ref 1], hp E w)) hM_83 1 rfl ?_
  refine Ev.callR hd hM_83 rfl (y := 69) (as := [.ref 1]) (rest := []) rfl (Nat.le_of_ble_eq_true rfl) h1 ?_
  refine Ev.run (c' := (603, [.ref 0, .ref 1, .int x2, .int x3, .int x4, .int x5, u6, u7, u8, u9, u10, u11, u12, u13, u14, u15, u16, u17, u18, u19], [.int x3, .int v1], hp E w1)) hM_83 1 rfl ?_
  refine Ev.icT hM_83 rfl (cI_eqT c1) ?_
  refine Ev.run (c' := (609, [.ref 0, .ref 1, .int x2, .int x3, .int x4, .int x5, u6, u7, u8, u9, u10, u11, u12, u13, u14, u15, u16, u17, u18, u19], [.ref 1], hp E w1)) hM_83 1 rfl ?_
  refine Ev.callR hd hM_83 rfl (y := 72) (as := [.ref 1]) (rest := []) rfl (Nat.le_of_ble_eq_true rfl) h2 ?_
  refine Ev.run (c' := (624, [.ref 0, .ref 1, .int x2, .int x3, .int x4, .int v2, .int (((1 : Int32) <<< (x2 &&& 31)) - (1 : Int32)), u7, u8, u9, u10, u11, u12, u13, u14, u15, u16, u17, u18, u19], [.int v2, .ref 1], hp E w2)) hM_83 9 rfl ?_
  refine Ev.callR hd hM_83 rfl (y := 71) (as := [.ref 1, .int v2]) (rest := []) rfl (Nat.le_of_ble_eq_true rfl) h3 ?_
  refine Ev.run (c' := (629, [.ref 0, .ref 1, .int x2, .int x3, .int x4, .int v2, .int (((1 : Int32) <<< (x2 &&& 31)) - (1 : Int32)), u7, u8, u9, u10, u11, u12, u13, u14, u15, u16, u17, u18, u19], [.int (((1 : Int32) <<< (x2 &&& 31)) - (1 : Int32)), .int v3], hp E w3)) hM_83 1 rfl ?_
  refine Ev.icT hM_83 rfl (cI_eqT c2) ?_
  refine Ev.run (c' := (637, [.ref 0, .ref 1, .int x2, .int x3, .int x4, .int v2, .int (((1 : Int32) <<< (x2 &&& 31)) - (1 : Int32)), .int (0 : Int32), u8, u9, u10, u11, u12, u13, u14, u15, u16, u17, u18, u19], [], hp E w3)) hM_83 2 rfl ?_
  exact e
theorem p83_637_a {E : Nat × (Nat → Int32)} {w : Wd} {d : Nat} {x2 x3 x4 x5 x6 x7 : Int32} {u8 u9 u10 u11 u12 u13 u14 u15 u16 u17 u18 u19 : Value} {o : Ou} {w1 : Wd} {v1 : Int32} {w2 : Wd} {v2 : Int32} {w3 : Wd} {v3 : Int32} (hd : 1 ≤ d) (c1 : x7 < ((1 : Int32) <<< (x2 &&& 31))) (h1 : Ev (d - 1) 82 (ent0 82 [.int x7] (hp E w)) (.inl (some (.int v1)), hp E w1)) (h2 : Ev (d - 1) 82 (ent0 82 [.int x5] (hp E w1)) (.inl (some (.int v2)), hp E w2)) (c2 : ¬ v1 < v2) (h3 : Ev (d - 1) 82 (ent0 82 [.int x5] (hp E w2)) (.inl (some (.int v3)), hp E w3)) (c3 : v1 = v3) (c4 : x7 < x5) (e : Ev d 83 (679, [.ref 0, .ref 1, .int x2, .int x3, .int x4, .int x5, .int x6, .int x7, .int v1, u9, u10, u11, u12, u13, u14, u15, u16, u17, u18, u19], [], hp E w3) o) : Ev d 83 (637, [.ref 0, .ref 1, .int x2, .int x3, .int x4, .int x5, .int x6, .int x7, u8, u9, u10, u11, u12, u13, u14, u15, u16, u17, u18, u19], [], hp E w) o := by
  refine Ev.run (c' := (642, [.ref 0, .ref 1, .int x2, .int x3, .int x4, .int x5, .int x6, .int x7, u8, u9, u10, u11, u12, u13, u14, u15, u16, u17, u18, u19], [.int ((1 : Int32) <<< (x2 &&& 31)), .int x7], hp E w)) hM_83 4 rfl ?_
  refine Ev.icF hM_83 rfl (cI_geF c1) ?_
  refine Ev.run (c' := (647, [.ref 0, .ref 1, .int x2, .int x3, .int x4, .int x5, .int x6, .int x7, u8, u9, u10, u11, u12, u13, u14, u15, u16, u17, u18, u19], [.int x7], hp E w)) hM_83 1 rfl ?_
  refine Ev.callR hd hM_83 rfl (y := 82) (as := [.int x7]) (rest := []) rfl (Nat.le_of_ble_eq_true rfl) h1 ?_
  refine Ev.run (c' := (656, [.ref 0, .ref 1, .int x2, .int x3, .int x4, .int x5, .int x6, .int x7, .int v1, u9, u10, u11, u12, u13, u14, u15, u16, u17, u18, u19], [.int x5, .int v1], hp E w1)) hM_83 3 rfl ?_
  refine Ev.callR hd hM_83 rfl (y := 82) (as := [.int x5]) (rest := [.int v1]) rfl (Nat.le_of_ble_eq_true rfl) h2 ?_
  refine Ev.run (c' := (659, [.ref 0, .ref 1, .int x2, .int x3, .int x4, .int x5, .int x6, .int x7, .int v1, u9, u10, u11, u12, u13, u14, u15, u16, u17, u18, u19], [.int v2, .int v1], hp E w2)) hM_83 0 rfl ?_
  refine Ev.icF hM_83 rfl (cI_ltF c2) ?_
  refine Ev.run (c' := (666, [.ref 0, .ref 1, .int x2, .int x3, .int x4, .int x5, .int x6, .int x7, .int v1, u9, u10, u11, u12, u13, u14, u15, u16, u17, u18, u19], [.int x5, .int v1], hp E w2)) hM_83 2 rfl ?_
  refine Ev.callR hd hM_83 rfl (y := 82) (as := [.int x5]) (rest := [.int v1]) rfl (Nat.le_of_ble_eq_true rfl) h3 ?_
  refine Ev.run (c' := (669, [.ref 0, .ref 1, .int x2, .int x3, .int x4, .int x5, .int x6, .int x7, .int v1, u9, u10, u11, u12, u13, u14, u15, u16, u17, u18, u19], [.int v3, .int v1], hp E w3)) hM_83 0 rfl ?_
  refine Ev.icF hM_83 rfl (cI_neF c3) ?_
  refine Ev.run (c' := (676, [.ref 0, .ref 1, .int x2, .int x3, .int x4, .int x5, .int x6, .int x7, .int v1, u9, u10, u11, u12, u13, u14, u15, u16, u17, u18, u19], [.int x5, .int x7], hp E w3)) hM_83 2 rfl ?_
  refine Ev.icF hM_83 rfl (cI_geF c4) ?_
  refine Ev.run (c' := (679, [.ref 0, .ref 1, .int x2, .int x3, .int x4, .int x5, .int x6, .int x7, .int v1, u9, u10, u11, u12, u13, u14, u15, u16, u17, u18, u19], [], hp E w3)) hM_83 0 rfl ?_
  exact e
theorem p83_637_b {E : Nat × (Nat → Int32)} {w : Wd} {d : Nat} {x2 x3 x4 x5 x6 x7 : Int32} {u8 u9 u10 u11 u12 u13 u14 u15 u16 u17 u18 u19 : Value} {o : Ou} {w1 : Wd} {v1 : Int32} {w2 : Wd} {v2 : Int32} {w3 : Wd} {v3 : Int32} (hd : 1 ≤ d) (c1 : x7 < ((1 : Int32) <<< (x2 &&& 31))) (h1 : Ev (d - 1) 82 (ent0 82 [.int x7] (hp E w)) (.inl (some (.int v1)), hp E w1)) (h2 : Ev (d - 1) 82 (ent0 82 [.int x5] (hp E w1)) (.inl (some (.int v2)), hp E w2)) (c2 : ¬ v1 < v2) (h3 : Ev (d - 1) 82 (ent0 82 [.int x5] (hp E w2)) (.inl (some (.int v3)), hp E w3)) (c3 : v1 = v3) (c4 : ¬ x7 < x5) (e : Ev d 83 (711, [.ref 0, .ref 1, .int x2, .int x3, .int x4, .int x5, .int x6, .int x7, .int v1, u9, u10, u11, u12, u13, u14, u15, u16, u17, u18, u19], [], hp E w3) o) : Ev d 83 (637, [.ref 0, .ref 1, .int x2, .int x3, .int x4, .int x5, .int x6, .int x7, u8, u9, u10, u11, u12, u13, u14, u15, u16, u17, u18, u19], [], hp E w) o := by
  refine Ev.run (c' := (642, [.ref 0, .ref 1, .int x2, .int x3, .int x4, .int x5, .int x6, .int x7, u8, u9, u10, u11, u12, u13, u14, u15, u16, u17, u18, u19], [.int ((1 : Int32) <<< (x2 &&& 31)), .int x7], hp E w)) hM_83 4 rfl ?_
  refine Ev.icF hM_83 rfl (cI_geF c1) ?_
  refine Ev.run (c' := (647, [.ref 0, .ref 1, .int x2, .int x3, .int x4, .int x5, .int x6, .int x7, u8, u9, u10, u11, u12, u13, u14, u15, u16, u17, u18, u19], [.int x7], hp E w)) hM_83 1 rfl ?_
  refine Ev.callR hd hM_83 rfl (y := 82) (as := [.int x7]) (rest := []) rfl (Nat.le_of_ble_eq_true rfl) h1 ?_
  refine Ev.run (c' := (656, [.ref 0, .ref 1, .int x2, .int x3, .int x4, .int x5, .int x6, .int x7, .int v1, u9, u10, u11, u12, u13, u14, u15, u16, u17, u18, u19], [.int x5, .int v1], hp E w1)) hM_83 3 rfl ?_
  refine Ev.callR hd hM_83 rfl (y := 82) (as := [.int x5]) (rest := [.int v1]) rfl (Nat.le_of_ble_eq_true rfl) h2 ?_
  refine Ev.run (c' := (659, [.ref 0, .ref 1, .int x2, .int x3, .int x4, .int x5, .int x6, .int x7, .int v1, u9, u10, u11, u12, u13, u14, u15, u16, u17, u18, u19], [.int v2, .int v1], hp E w2)) hM_83 0 rfl ?_
  refine Ev.icF hM_83 rfl (cI_ltF c2) ?_
  refine Ev.run (c' := (666, [.ref 0, .ref 1, .int x2, .int x3, .int x4, .int x5, .int x6, .int x7, .int v1, u9, u10, u11, u12, u13, u14, u15, u16, u17, u18, u19], [.int x5, .int v1], hp E w2)) hM_83 2 rfl ?_
  refine Ev.callR hd hM_83 rfl (y := 82) (as := [.int x5]) (rest := [.int v1]) rfl (Nat.le_of_ble_eq_true rfl) h3 ?_
  refine Ev.run (c' := (669, [.ref 0, .ref 1, .int x2, .int x3, .int x4, .int x5, .int x6, .int x7, .int v1, u9, u10, u11, u12, u13, u14, u15, u16, u17, u18, u19], [.int v3, .int v1], hp E w3)) hM_83 0 rfl ?_
  refine Ev.icF hM_83 rfl (cI_neF c3) ?_
  refine Ev.run (c' := (676, [.ref 0, .ref 1, .int x2, .int x3, .int x4, .int x5, .int x6, .int x7, .int v1, u9, u10, u11, u12, u13, u14, u15, u16, u17, u18, u19], [.int x5, .int x7], hp E w3)) hM_83 2 rfl ?_
  refine Ev.icT hM_83 rfl (cI_geT c4) ?_
  refine Ev.run (c' := (711, [.ref 0, .ref 1, .int x2, .int x3, .int x4, .int x5, .int x6, .int x7, .int v1, u9, u10, u11, u12, u13, u14, u15, u16, u17, u18, u19], [], hp E w3)) hM_83 0 rfl ?_
  exact e
theorem p83_637_c {E : Nat × (Nat → Int32)} {w : Wd} {d : Nat} {x2 x3 x4 x5 x6 x7 : Int32} {u8 u9 u10 u11 u12 u13 u14 u15 u16 u17 u18 u19 : Value} {o : Ou} {w1 : Wd} {v1 : Int32} {w2 : Wd} {v2 : Int32} {w3 : Wd} {v3 : Int32} (hd : 1 ≤ d) (c1 : x7 < ((1 : Int32) <<< (x2 &&& 31))) (h1 : Ev (d - 1) 82 (ent0 82 [.int x7] (hp E w)) (.inl (some (.int v1)), hp E w1)) (h2 : Ev (d - 1) 82 (ent0 82 [.int x5] (hp E w1)) (.inl (some (.int v2)), hp E w2)) (c2 : ¬ v1 < v2) (h3 : Ev (d - 1) 82 (ent0 82 [.int x5] (hp E w2)) (.inl (some (.int v3)), hp E w3)) (c3 : ¬ v1 = v3) (e : Ev d 83 (711, [.ref 0, .ref 1, .int x2, .int x3, .int x4, .int x5, .int x6, .int x7, .int v1, u9, u10, u11, u12, u13, u14, u15, u16, u17, u18, u19], [], hp E w3) o) : Ev d 83 (637, [.ref 0, .ref 1, .int x2, .int x3, .int x4, .int x5, .int x6, .int x7, u8, u9, u10, u11, u12, u13, u14, u15, u16, u17, u18, u19], [], hp E w) o := by
  refine Ev.run (c' := (642, [.ref 0, .ref 1, .int x2, .int x3, .int x4, .int x5, .int x6, .int x7, u8, u9, u10, u11, u12, u13, u14, u15, u16, u17, u18, u19], [.int ((1 : Int32) <<< (x2 &&& 31)), .int x7], hp E w)) hM_83 4 rfl ?_
  refine Ev.icF hM_83 rfl (cI_geF c1) ?_
  refine Ev.run (c' := (647, [.ref 0, .ref 1, .int x2, .int x3, .int x4, .int x5, .int x6, .int x7, u8, u9, u10, u11, u12, u13, u14, u15, u16, u17, u18, u19], [.int x7], hp E w)) hM_83 1 rfl ?_
  refine Ev.callR hd hM_83 rfl (y := 82) (as := [.int x7]) (rest := []) rfl (Nat.le_of_ble_eq_true rfl) h1 ?_
  refine Ev.run (c' := (656, [.ref 0, .ref 1, .int x2, .int x3, .int x4, .int x5, .int x6, .int x7, .int v1, u9, u10, u11, u12, u13, u14, u15, u16, u17, u18, u19], [.int x5, .int v1], hp E w1)) hM_83 3 rfl ?_
  refine Ev.callR hd hM_83 rfl (y := 82) (as := [.int x5]) (rest := [.int v1]) rfl (Nat.le_of_ble_eq_true rfl) h2 ?_
  refine Ev.run (c' := (659, [.ref 0, .ref 1, .int x2, .int x3, .int x4, .int x5, .int x6, .int x7, .int v1, u9, u10, u11, u12, u13, u14, u15, u16, u17, u18, u19], [.int v2, .int v1], hp E w2)) hM_83 0 rfl ?_
  refine Ev.icF hM_83 rfl (cI_ltF c2) ?_
  refine Ev.run (c' := (666, [.ref 0, .ref 1, .int x2, .int x3, .int x4, .int x5, .int x6, .int x7, .int v1, u9, u10, u11, u12, u13, u14, u15, u16, u17, u18, u19], [.int x5, .int v1], hp E w2)) hM_83 2 rfl ?_
  refine Ev.callR hd hM_83 rfl (y := 82) (as := [.int x5]) (rest := [.int v1]) rfl (Nat.le_of_ble_eq_true rfl) h3 ?_
  refine Ev.run (c' := (669, [.ref 0, .ref 1, .int x2, .int x3, .int x4, .int x5, .int x6, .int x7, .int v1, u9, u10, u11, u12, u13, u14, u15, u16, u17, u18, u19], [.int v3, .int v1], hp E w3)) hM_83 0 rfl ?_
  refine Ev.icT hM_83 rfl (cI_neT c3) ?_
  refine Ev.run (c' := (711, [.ref 0, .ref 1, .int x2, .int x3, .int x4, .int x5, .int x6, .int x7, .int v1, u9, u10, u11, u12, u13, u14, u15, u16, u17, u18, u19], [], hp E w3)) hM_83 0 rfl ?_
  exact e
theorem p83_637_d {E : Nat × (Nat → Int32)} {w : Wd} {d : Nat} {x2 x3 x4 x5 x6 x7 : Int32} {u8 u9 u10 u11 u12 u13 u14 u15 u16 u17 u18 u19 : Value} {o : Ou} {w1 : Wd} {v1 : Int32} {w2 : Wd} {v2 : Int32} (hd : 1 ≤ d) (c1 : x7 < ((1 : Int32) <<< (x2 &&& 31))) (h1 : Ev (d - 1) 82 (ent0 82 [.int x7] (hp E w)) (.inl (some (.int v1)), hp E w1)) (h2 : Ev (d - 1) 82 (ent0 82 [.int x5] (hp E w1)) (.inl (some (.int v2)), hp E w2)) (c2 : v1 < v2) (e : Ev d 83 (679, [.ref 0, .ref 1, .int x2, .int x3, .int x4, .int x5, .int x6, .int x7, .int v1, u9, u10, u11, u12, u13, u14, u15, u16, u17, u18, u19], [], hp E w2) o) : Ev d 83 (637, [.ref 0, .ref 1, .int x2, .int x3, .int x4, .int x5, .int x6, .int x7, u8, u9, u10, u11, u12, u13, u14, u15, u16, u17, u18, u19], [], hp E w) o := by
  refine Ev.run (c' := (642, [.ref 0, .ref 1, .int x2, .int x3, .int x4, .int x5, .int x6, .int x7, u8, u9, u10, u11, u12, u13, u14, u15, u16, u17, u18, u19], [.int ((1 : Int32) <<< (x2 &&& 31)), .int x7], hp E w)) hM_83 4 rfl ?_
  refine Ev.icF hM_83 rfl (cI_geF c1) ?_
  refine Ev.run (c' := (647, [.ref 0, .ref 1, .int x2, .int x3, .int x4, .int x5, .int x6, .int x7, u8, u9, u10, u11, u12, u13, u14, u15, u16, u17, u18, u19], [.int x7], hp E w)) hM_83 1 rfl ?_
  refine Ev.callR hd hM_83 rfl (y := 82) (as := [.int x7]) (rest := []) rfl (Nat.le_of_ble_eq_true rfl) h1 ?_
  refine Ev.run (c' := (656, [.ref 0, .ref 1, .int x2, .int x3, .int x4, .int x5, .int x6, .int x7, .int v1, u9, u10, u11, u12, u13, u14, u15, u16, u17, u18, u19], [.int x5, .int v1], hp E w1)) hM_83 3 rfl ?_
  refine Ev.callR hd hM_83 rfl (y := 82) (as := [.int x5]) (rest := [.int v1]) rfl (Nat.le_of_ble_eq_true rfl) h2 ?_
  refine Ev.run (c' := (659, [.ref 0, .ref 1, .int x2, .int x3, .int x4, .int x5, .int x6, .int x7, .int v1, u9, u10, u11, u12, u13, u14, u15, u16, u17, u18, u19], [.int v2, .int v1], hp E w2)) hM_83 0 rfl ?_
  refine Ev.icT hM_83 rfl (cI_ltT c2) ?_
  refine Ev.run (c' := (679, [.ref 0, .ref 1, .int x2, .int x3, .int x4, .int x5, .int x6, .int x7, .int v1, u9, u10, u11, u12, u13, u14, u15, u16, u17, u18, u19], [], hp E w2)) hM_83 0 rfl ?_
  exact e
theorem p83_637_e {E : Nat × (Nat → Int32)} {w : Wd} {d : Nat} {x2 x3 x4 x5 x6 x7 : Int32} {u8 u9 u10 u11 u12 u13 u14 u15 u16 u17 u18 u19 : Value}  (c1 : ¬ x7 < ((1 : Int32) <<< (x2 &&& 31))) : Ev d 83 (637, [.ref 0, .ref 1, .int x2, .int x3, .int x4, .int x5, .int x6, .int x7, u8, u9, u10, u11, u12, u13, u14, u15, u16, u17, u18, u19], [], hp E w) (.inl (some (.int (1 : Int32))), hp E w) := by
  refine Ev.run (c' := (642, [.ref 0, .ref 1, .int x2, .int x3, .int x4, .int x5, .int x6, .int x7, u8, u9, u10, u11, u12, u13, u14, u15, u16, u17, u18, u19], [.int ((1 : Int32) <<< (x2 &&& 31)), .int x7], hp E w)) hM_83 4 rfl ?_
  refine Ev.icT hM_83 rfl (cI_geT c1) ?_
  refine Ev.run (c' := (718, [.ref 0, .ref 1, .int x2, .int x3, .int x4, .int x5, .int x6, .int x7, u8, u9, u10, u11, u12, u13, u14, u15, u16, u17, u18, u19], [.int (1 : Int32)], hp E w)) hM_83 1 rfl ?_
  exact Ev.fin hM_83 rfl rfl
theorem p83_679_b {E : Nat × (Nat → Int32)} {w : Wd} {d : Nat} {x2 x3 x4 x5 x6 x7 x8 : Int32} {u9 u10 u11 u12 u13 u14 u15 u16 u17 u18 u19 : Value} {o : Ou} {z1 : Int32} {w1 : Wd} {v1 : Int32} {z2 : Int32} {w2 : Wd} {v2 : Int32} {w3 : Wd} {v3 : Int32} (hd : 1 ≤ d) (a1 : ((30 : Int32) + x7) = z1) (h1 : Ev (d - 1) 80 (ent0 80 [.ref 0, .int z1] (hp E w)) (.inl (some (.int v1)), hp E w1)) (a2 : (v1 &&& (2147483647 : Int32)) = z2) (h2 : Ev (d - 1) 81 (ent0 81 [.int z2, .int (3 : Int32)] (hp E w1)) (.inl (some (.int v2)), hp E w2)) (c1 : v2 = 0) (h3 : Ev (d - 1) 71 (ent0 71 [.ref 1, .int x7] (hp E w2)) (.inl (some (.int v3)), hp E w3)) (c2 : ¬ v3 = x6) (e : Ev d 83 (711, [.ref 0, .ref 1, .int x2, .int x3, .int x4, .int x5, .int x6, .int x7, .int x8, u9, u10, u11, u12, u13, u14, u15, u16, u17, u18, u19], [], hp E w3) o) : Ev d 83 (679, [.ref 0, .ref 1, .int x2, .int x3, .int x4, .int x5, .int x6, .int x7, .int x8, u9, u10, u11, u12, u13, u14, u15, u16, u17, u18, u19], [], hp E w) o := by
  refine Ev.run (c' := (685, [.ref 0, .ref 1, .int x2, .int x3, .int x4, .int x5, .int x6, .int x7, .int x8, u9, u10, u11, u12, u13, u14, u15, u16, u17, u18, u19], [.int ((30 : Int32) + x7), .ref 0], hp E w)) hM_83 4 rfl ?_
  rw [← a1] at h1
  refine Ev.callR hd hM_83 rfl (y := 80) (as := [.ref 0, .int ((30 : Int32) + x7)]) (rest := []) rfl (Nat.le_of_ble_eq_true rfl) h1 ?_
  refine Ev.run (c' := (692, [.ref 0, .ref 1, .int x2, .int x3, .int x4, .int x5, .int x6, .int x7, .int x8, u9, u10, u11, u12, u13, u14, u15, u16, u17, u18, u19], [.int (3 : Int32), .int (v1 &&& (2147483647 : Int32))], hp E w1)) hM_83 3 rfl ?_
  rw [← a2] at h2
  refine Ev.callR hd hM_83 rfl (y := 81) (as := [.int (v1 &&& (2147483647 : Int32)), .int (3 : Int32)]) (rest := []) rfl (Nat.le_of_ble_eq_true rfl) h2 ?_
  refine Ev.run (c' := (695, [.ref 0, .ref 1, .int x2, .int x3, .int x4, .int x5, .int x6, .int x7, .int x8, u9, u10, u11, u12, u13, u14, u15, u16, u17, u18, u19], [.int v2], hp E w2)) hM_83 0 rfl ?_
  refine Ev.ifF hM_83 rfl (cI_neF c1) ?_
  refine Ev.run (c' := (701, [.ref 0, .ref 1, .int x2, .int x3, .int x4, .int x5, .int x6, .int x7, .int x8, u9, u10, u11, u12, u13, u14, u15, u16, u17, u18, u19], [.int x7, .ref 1], hp E w2)) hM_83 2 rfl ?_
  refine Ev.callR hd hM_83 rfl (y := 71) (as := [.ref 1, .int x7]) (rest := []) rfl (Nat.le_of_ble_eq_true rfl) h3 ?_
  refine Ev.run (c' := (706, [.ref 0, .ref 1, .int x2, .int x3, .int x4, .int x5, .int x6, .int x7, .int x8, u9, u10, u11, u12, u13, u14, u15, u16, u17, u18, u19], [.int x6, .int v3], hp E w3)) hM_83 1 rfl ?_
  refine Ev.icT hM_83 rfl (cI_neT c2) ?_
  refine Ev.run (c' := (711, [.ref 0, .ref 1, .int x2, .int x3, .int x4, .int x5, .int x6, .int x7, .int x8, u9, u10, u11, u12, u13, u14, u15, u16, u17, u18, u19], [], hp E w3)) hM_83 0 rfl ?_
  exact e
theorem p83_679_c {E : Nat × (Nat → Int32)} {w : Wd} {d : Nat} {x2 x3 x4 x5 x6 x7 x8 : Int32} {u9 u10 u11 u12 u13 u14 u15 u16 u17 u18 u19 : Value} {o : Ou} {z1 : Int32} {w1 : Wd} {v1 : Int32} {z2 : Int32} {w2 : Wd} {v2 : Int32} (hd : 1 ≤ d) (a1 : ((30 : Int32) + x7) = z1) (h1 : Ev (d - 1) 80 (ent0 80 [.ref 0, .int z1] (hp E w)) (.inl (some (.int v1)), hp E w1)) (a2 : (v1 &&& (2147483647 : Int32)) = z2) (h2 : Ev (d - 1) 81 (ent0 81 [.int z2, .int (3 : Int32)] (hp E w1)) (.inl (some (.int v2)), hp E w2)) (c1 : ¬ v2 = 0) (e : Ev d 83 (711, [.ref 0, .ref 1, .int x2, .int x3, .int x4, .int x5, .int x6, .int x7, .int x8, u9, u10, u11, u12, u13, u14, u15, u16, u17, u18, u19], [], hp E w2) o) : Ev d 83 (679, [.ref 0, .ref 1, .int x2, .int x3, .int x4, .int x5, .int x6, .int x7, .int x8, u9, u10, u11, u12, u13, u14, u15, u16, u17, u18, u19], [], hp E w) o := by
  refine Ev.run (c' := (685, [.ref 0, .ref 1, .int x2, .int x3, .int x4, .int x5, .int x6, .int x7, .int x8, u9, u10, u11, u12, u13, u14, u15, u16, u17, u18, u19], [.int ((30 : Int32) + x7), .ref 0], hp E w)) hM_83 4 rfl ?_
  rw [← a1] at h1
  refine Ev.callR hd hM_83 rfl (y := 80) (as := [.ref 0, .int ((30 : Int32) + x7)]) (rest := []) rfl (Nat.le_of_ble_eq_true rfl) h1 ?_
  refine Ev.run (c' := (692, [.ref 0, .ref 1, .int x2, .int x3, .int x4, .int x5, .int x6, .int x7, .int x8, u9, u10, u11, u12, u13, u14, u15, u16, u17, u18, u19], [.int (3 : Int32), .int (v1 &&& (2147483647 : Int32))], hp E w1)) hM_83 3 rfl ?_
  rw [← a2] at h2
  refine Ev.callR hd hM_83 rfl (y := 81) (as := [.int (v1 &&& (2147483647 : Int32)), .int (3 : Int32)]) (rest := []) rfl (Nat.le_of_ble_eq_true rfl) h2 ?_
  refine Ev.run (c' := (695, [.ref 0, .ref 1, .int x2, .int x3, .int x4, .int x5, .int x6, .int x7, .int x8, u9, u10, u11, u12, u13, u14, u15, u16, u17, u18, u19], [.int v2], hp E w2)) hM_83 0 rfl ?_
  refine Ev.ifT hM_83 rfl (cI_neT c1) ?_
  refine Ev.run (c' := (711, [.ref 0, .ref 1, .int x2, .int x3, .int x4, .int x5, .int x6, .int x7, .int x8, u9, u10, u11, u12, u13, u14, u15, u16, u17, u18, u19], [], hp E w2)) hM_83 0 rfl ?_
  exact e
theorem p83_711_a {E : Nat × (Nat → Int32)} {w : Wd} {d : Nat} {x2 x3 x4 x5 x6 x7 x8 : Int32} {u9 u10 u11 u12 u13 u14 u15 u16 u17 u18 u19 : Value} {o : Ou} {y7 : Int32} (q7 : (x7 + (1 : Int32)) = y7) (e : Ev d 83 (637, [.ref 0, .ref 1, .int x2, .int x3, .int x4, .int x5, .int x6, .int y7, .int x8, u9, u10, u11, u12, u13, u14, u15, u16, u17, u18, u19], [], hp E w) o) : Ev d 83 (711, [.ref 0, .ref 1, .int x2, .int x3, .int x4, .int x5, .int x6, .int x7, .int x8, u9, u10, u11, u12, u13, u14, u15, u16, u17, u18, u19], [], hp E w) o := by
  subst q7
  refine Ev.run (c' := (637, [.ref 0, .ref 1, .int x2, .int x3, .int x4, .int x5, .int x6, .int (x7 + (1 : Int32)), .int x8, u9, u10, u11, u12, u13, u14, u15, u16, u17, u18, u19], [], hp E w)) hM_83 2 rfl ?_
  exact e
end
