section
theorem hM_79 : mAt 79 = some km_J6_bitCount_0f7a4 := rfl
theorem p79_e_a {E : Nat × (Nat → Int32)} {w : Wd} {d : Nat} {x0 : Int32} {y : Int32} (q : ((((((((x0 - (((x0).toUInt32 >>> (((1 : Int32)).toUInt32 &&& Int32.toUInt32 31)).toInt32 &&& (1431655765 : Int32))) &&& (858993459 : Int32)) + ((((x0 - (((x0).toUInt32 >>> (((1 : Int32)).toUInt32 &&& Int32.toUInt32 31)).toInt32 &&& (1431655765 : Int32)))).toUInt32 >>> (((2 : Int32)).toUInt32 &&& Int32.toUInt32 31)).toInt32 &&& (858993459 : Int32))) + (((((x0 - (((x0).toUInt32 >>> (((1 : Int32)).toUInt32 &&& Int32.toUInt32 31)).toInt32 &&& (1431655765 : Int32))) &&& (858993459 : Int32)) + ((((x0 - (((x0).toUInt32 >>> (((1 : Int32)).toUInt32 &&& Int32.toUInt32 31)).toInt32 &&& (1431655765 : Int32)))).toUInt32 >>> (((2 : Int32)).toUInt32 &&& Int32.toUInt32 31)).toInt32 &&& (858993459 : Int32)))).toUInt32 >>> (((4 : Int32)).toUInt32 &&& Int32.toUInt32 31)).toInt32) &&& (252645135 : Int32)) + (((((((x0 - (((x0).toUInt32 >>> (((1 : Int32)).toUInt32 &&& Int32.toUInt32 31)).toInt32 &&& (1431655765 : Int32))) &&& (858993459 : Int32)) + ((((x0 - (((x0).toUInt32 >>> (((1 : Int32)).toUInt32 &&& Int32.toUInt32 31)).toInt32 &&& (1431655765 : Int32)))).toUInt32 >>> (((2 : Int32)).toUInt32 &&& Int32.toUInt32 31)).toInt32 &&& (858993459 : Int32))) + (((((x0 - (((x0).toUInt32 >>> (((1 : Int32)).toUInt32 &&& Int32.toUInt32 31)).toInt32 &&& (1431655765 : Int32))) &&& (858993459 : Int32)) + ((((x0 - (((x0).toUInt32 >>> (((1 : Int32)).toUInt32 &&& Int32.toUInt32 31)).toInt32 &&& (1431655765 : Int32)))).toUInt32 >>> (((2 : Int32)).toUInt32 &&& Int32.toUInt32 31)).toInt32 &&& (858993459 : Int32)))).toUInt32 >>> (((4 : Int32)).toUInt32 &&& Int32.toUInt32 31)).toInt32) &&& (252645135 : Int32))).toUInt32 >>> (((8 : Int32)).toUInt32 &&& Int32.toUInt32 31)).toInt32) + ((((((((x0 - (((x0).toUInt32 >>> (((1 : Int32)).toUInt32 &&& Int32.toUInt32 31)).toInt32 &&& (1431655765 : Int32))) &&& (858993459 : Int32)) + ((((x0 - (((x0).toUInt32 >>> (((1 : Int32)).toUInt32 &&& Int32.toUInt32 31)).toInt32 &&& (1431655765 : Int32)))).toUInt32 >>> (((2 : Int32)).toUInt32 &&& Int32.toUInt32 31)).toInt32 &&& (858993459 : Int32))) + (((((x0 - (((x0).toUInt32 >>> (((1 : Int32)).toUInt32 &&& Int32.toUInt32 31)).toInt32 &&& (1431655765 : Int32))) &&& (858993459 : Int32)) + ((((x0 - (((x0).toUInt32 >>> (((1 : Int32)).toUInt32 &&& Int32.toUInt32 31)).toInt32 &&& (1431655765 : Int32)))).toUInt32 >>> (((2 : Int32)).toUInt32 &&& Int32.toUInt32 31)).toInt32 &&& (858993459 : Int32)))).toUInt32 >>> (((4 : Int32)).toUInt32 &&& Int32.toUInt32 31)).toInt32) &&& (252645135 : Int32)) + (((((((x0 - (((x0).toUInt32 >>> (((1 : Int32)).toUInt32 &&& Int32.toUInt32 31)).toInt32 &&& (1431655765 : Int32))) &&& (858993459 : Int32)) + ((((x0 - (((x0).toUInt32 >>> (((1 : Int32)).toUInt32 &&& Int32.toUInt32 31)).toInt32 &&& (1431655765 : Int32)))).toUInt32 >>> (((2 : Int32)).toUInt32 &&& Int32.toUInt32 31)).toInt32 &&& (858993459 : Int32))) + (((((x0 - (((x0).toUInt32 >>> (((1 : Int32)).toUInt32 &&& Int32.toUInt32 31)).toInt32 &&& (1431655765 : Int32))) &&& (858993459 : Int32)) + ((((x0 - (((x0).toUInt32 >>> (((1 : Int32)).toUInt32 &&& Int32.toUInt32 31)).toInt32 &&& (1431655765 : Int32)))).toUInt32 >>> (((2 : Int32)).toUInt32 &&& Int32.toUInt32 31)).toInt32 &&& (858993459 : Int32)))).toUInt32 >>> (((4 : Int32)).toUInt32 &&& Int32.toUInt32 31)).toInt32) &&& (252645135 : Int32))).toUInt32 >>> (((8 : Int32)).toUInt32 &&& Int32.toUInt32 31)).toInt32)).toUInt32 >>> (((16 : Int32)).toUInt32 &&& Int32.toUInt32 31)).toInt32) &&& (63 : Int32)) = y) : Ev d 79 (ent0 79 [.int x0] (hp E w)) (.inl (some (.int y)), hp E w) := by
  subst q
  refine Ev.run (c' := (52, [.int (((((((x0 - (((x0).toUInt32 >>> (((1 : Int32)).toUInt32 &&& Int32.toUInt32 31)).toInt32 &&& (1431655765 : Int32))) &&& (858993459 : Int32)) + ((((x0 - (((x0).toUInt32 >>> (((1 : Int32)).toUInt32 &&& Int32.toUInt32 31)).toInt32 &&& (1431655765 : Int32)))).toUInt32 >>> (((2 : Int32)).toUInt32 &&& Int32.toUInt32 31)).toInt32 &&& (858993459 : Int32))) + (((((x0 - (((x0).toUInt32 >>> (((1 : Int32)).toUInt32 &&& Int32.toUInt32 31)).toInt32 &&& (1431655765 : Int32))) &&& (858993459 : Int32)) + ((((x0 - (((x0).toUInt32 >>> (((1 : Int32)).toUInt32 &&& Int32.toUInt32 31)).toInt32 &&& (1431655765 : Int32)))).toUInt32 >>> (((2 : Int32)).toUInt32 &&& Int32.toUInt32 31)).toInt32 &&& (858993459 : Int32)))).toUInt32 >>> (((4 : Int32)).toUInt32 &&& Int32.toUInt32 31)).toInt32) &&& (252645135 : Int32)) + (((((((x0 - (((x0).toUInt32 >>> (((1 : Int32)).toUInt32 &&& Int32.toUInt32 31)).toInt32 &&& (1431655765 : Int32))) &&& (858993459 : Int32)) + ((((x0 - (((x0).toUInt32 >>> (((1 : Int32)).toUInt32 &&& Int32.toUInt32 31)).toInt32 &&& (1431655765 : Int32)))).toUInt32 >>> (((2 : Int32)).toUInt32 &&& Int32.toUInt32 31)).toInt32 &&& (858993459 : Int32))) + (((((x0 - (((x0).toUInt32 >>> (((1 : Int32)).toUInt32 &&& Int32.toUInt32 31)).toInt32 &&& (1431655765 : Int32))) &&& (858993459 : Int32)) + ((((x0 - (((x0).toUInt32 >>> (((1 : Int32)).toUInt32 &&& Int32.toUInt32 31)).toInt32 &&& (1431655765 : Int32)))).toUInt32 >>> (((2 : Int32)).toUInt32 &&& Int32.toUInt32 31)).toInt32 &&& (858993459 : Int32)))).toUInt32 >>> (((4 : Int32)).toUInt32 &&& Int32.toUInt32 31)).toInt32) &&& (252645135 : Int32))).toUInt32 >>> (((8 : Int32)).toUInt32 &&& Int32.toUInt32 31)).toInt32) + ((((((((x0 - (((x0).toUInt32 >>> (((1 : Int32)).toUInt32 &&& Int32.toUInt32 31)).toInt32 &&& (1431655765 : Int32))) &&& (858993459 : Int32)) + ((((x0 - (((x0).toUInt32 >>> (((1 : Int32)).toUInt32 &&& Int32.toUInt32 31)).toInt32 &&& (1431655765 : Int32)))).toUInt32 >>> (((2 : Int32)).toUInt32 &&& Int32.toUInt32 31)).toInt32 &&& (858993459 : Int32))) + (((((x0 - (((x0).toUInt32 >>> (((1 : Int32)).toUInt32 &&& Int32.toUInt32 31)).toInt32 &&& (1431655765 : Int32))) &&& (858993459 : Int32)) + ((((x0 - (((x0).toUInt32 >>> (((1 : Int32)).toUInt32 &&& Int32.toUInt32 31)).toInt32 &&& (1431655765 : Int32)))).toUInt32 >>> (((2 : Int32)).toUInt32 &&& Int32.toUInt32 31)).toInt32 &&& (858993459 : Int32)))).toUInt32 >>> (((4 : Int32)).toUInt32 &&& Int32.toUInt32 31)).toInt32) &&& (252645135 : Int32)) + (((((((x0 - (((x0).toUInt32 >>> (((1 : Int32)).toUInt32 &&& Int32.toUInt32 31)).toInt32 &&& (1431655765 : Int32))) &&& (858993459 : Int32)) + ((((x0 - (((x0).toUInt32 >>> (((1 : Int32)).toUInt32 &&& Int32.toUInt32 31)).toInt32 &&& (1431655765 : Int32)))).toUInt32 >>> (((2 : Int32)).toUInt32 &&& Int32.toUInt32 31)).toInt32 &&& (858993459 : Int32))) + (((((x0 - (((x0).toUInt32 >>> (((1 : Int32)).toUInt32 &&& Int32.toUInt32 31)).toInt32 &&& (1431655765 : Int32))) &&& (858993459 : Int32)) + ((((x0 - (((x0).toUInt32 >>> (((1 : Int32)).toUInt32 &&& Int32.toUInt32 31)).toInt32 &&& (1431655765 : Int32)))).toUInt32 >>> (((2 : Int32)).toUInt32 &&& Int32.toUInt32 31)).toInt32 &&& (858993459 : Int32)))).toUInt32 >>> (((4 : Int32)).toUInt32 &&& Int32.toUInt32 31)).toInt32) &&& (252645135 : Int32))).toUInt32 >>> (((8 : Int32)).toUInt32 &&& Int32.toUInt32 31)).toInt32)).toUInt32 >>> (((16 : Int32)).toUInt32 &&& Int32.toUInt32 31)).toInt32)], [.int ((((((((x0 - (((x0).toUInt32 >>> (((1 : Int32)).toUInt32 &&& Int32.toUInt32 31)).toInt32 &&& (1431655765 : Int32))) &&& (858993459 : Int32)) + ((((x0 - (((x0).toUInt32 >>> (((1 : Int32)).toUInt32 &&& Int32.toUInt32 31)).toInt32 &&& (1431655765 : Int32)))).toUInt32 >>> (((2 : Int32)).toUInt32 &&& Int32.toUInt32 31)).toInt32 &&& (858993459 : Int32))) + (((((x0 - (((x0).toUInt32 >>> (((1 : Int32)).toUInt32 &&& Int32.toUInt32 31)).toInt32 &&& (1431655765 : Int32))) &&& (858993459 : Int32)) + ((((x0 - (((x0).toUInt32 >>> (((1 : Int32)).toUInt32 &&& Int32.toUInt32 31)).toInt32 &&& (1431655765 : Int32)))).toUInt32 >>> (((2 : Int32)).toUInt32 &&& Int32.toUInt32 31)).toInt32 &&& (858993459 : Int32)))).toUInt32 >>> (((4 : Int32)).toUInt32 &&& Int32.toUInt32 31)).toInt32) &&& (252645135 : Int32)) + (((((((x0 - (((x0).toUInt32 >>> (((1 : Int32)).toUInt32 &&& Int32.toUInt32 31)).toInt32 &&& (1431655765 : Int32))) &&& (858993459 : Int32)) + ((((x0 - (((x0).toUInt32 >>> (((1 : Int32)).toUInt32 &&& Int32.toUInt32 31)).toInt32 &&& (1431655765 : Int32)))).toUInt32 >>> (((2 : Int32)).toUInt32 &&& Int32.toUInt32 31)).toInt32 &&& (858993459 : Int32))) + (((((x0 - (((x0).toUInt32 >>> (((1 : Int32)).toUInt32 &&& Int32.toUInt32 31)).toInt32 &&& (1431655765 : Int32))) &&& (858993459 : Int32)) + ((((x0 - (((x0).toUInt32 >>> (((1 : Int32)).toUInt32 &&& Int32.toUInt32 31)).toInt32 &&& (1431655765 : Int32)))).toUInt32 >>> (((2 : Int32)).toUInt32 &&& Int32.toUInt32 31)).toInt32 &&& (858993459 : Int32)))).toUInt32 >>> (((4 : Int32)).toUInt32 &&& Int32.toUInt32 31)).toInt32) &&& (252645135 : Int32))).toUInt32 >>> (((8 : Int32)).toUInt32 &&& Int32.toUInt32 31)).toInt32) + ((((((((x0 - (((x0).toUInt32 >>> (((1 : Int32)).toUInt32 &&& Int32.toUInt32 31)).toInt32 &&& (1431655765 : Int32))) &&& (858993459 : Int32)) + ((((x0 - (((x0).toUInt32 >>> (((1 : Int32)).toUInt32 &&& Int32.toUInt32 31)).toInt32 &&& (1431655765 : Int32)))).toUInt32 >>> (((2 : Int32)).toUInt32 &&& Int32.toUInt32 31)).toInt32 &&& (858993459 : Int32))) + (((((x0 - (((x0).toUInt32 >>> (((1 : Int32)).toUInt32 &&& Int32.toUInt32 31)).toInt32 &&& (1431655765 : Int32))) &&& (858993459 : Int32)) + ((((x0 - (((x0).toUInt32 >>> (((1 : Int32)).toUInt32 &&& Int32.toUInt32 31)).toInt32 &&& (1431655765 : Int32)))).toUInt32 >>> (((2 : Int32)).toUInt32 &&& Int32.toUInt32 31)).toInt32 &&& (858993459 : Int32)))).toUInt32 >>> (((4 : Int32)).toUInt32 &&& Int32.toUInt32 31)).toInt32) &&& (252645135 : Int32)) + (((((((x0 - (((x0).toUInt32 >>> (((1 : Int32)).toUInt32 &&& Int32.toUInt32 31)).toInt32 &&& (1431655765 : Int32))) &&& (858993459 : Int32)) + ((((x0 - (((x0).toUInt32 >>> (((1 : Int32)).toUInt32 &&& Int32.toUInt32 31)).toInt32 &&& (1431655765 : Int32)))).toUInt32 >>> (((2 : Int32)).toUInt32 &&& Int32.toUInt32 31)).toInt32 &&& (858993459 : Int32))) + (((((x0 - (((x0).toUInt32 >>> (((1 : Int32)).toUInt32 &&& Int32.toUInt32 31)).toInt32 &&& (1431655765 : Int32))) &&& (858993459 : Int32)) + ((((x0 - (((x0).toUInt32 >>> (((1 : Int32)).toUInt32 &&& Int32.toUInt32 31)).toInt32 &&& (1431655765 : Int32)))).toUInt32 >>> (((2 : Int32)).toUInt32 &&& Int32.toUInt32 31)).toInt32 &&& (858993459 : Int32)))).toUInt32 >>> (((4 : Int32)).toUInt32 &&& Int32.toUInt32 31)).toInt32) &&& (252645135 : Int32))).toUInt32 >>> (((8 : Int32)).toUInt32 &&& Int32.toUInt32 31)).toInt32)).toUInt32 >>> (((16 : Int32)).toUInt32 &&& Int32.toUInt32 31)).toInt32) &&& (63 : Int32))], hp E w)) hM_79 41 rfl ?_
  exact Ev.fin hM_79 rfl rfl
theorem hM_31 : mAt 31 = some km_X3_forget := rfl
theorem p31_e_a {E : Nat × (Nat → Int32)} {w : Wd} {d : Nat} {w' : Wd} (qw : (sF 3 (0 : Int32) w) = w') : Ev d 31 (ent0 31 [.ref 5] (hp E w)) (.inl none, hp E w') := by
  subst qw
  refine Ev.run (c' := (5, [.ref 5], [], hp E (sF 3 (0 : Int32) w))) hM_31 3 rfl ?_
  exact Ev.fin hM_31 rfl rfl
theorem hM_32 : mAt 32 = some km_X3_add := rfl
theorem p32_e_a {E : Nat × (Nat → Int32)} {w : Wd} {d : Nat} {x1 x2 x3 : Int32} {j1 : Nat} {j2 : Nat} {j3 : Nat} {w' : Wd} (hd : 1 ≤ d) (c1 : (gF w 3) < (200 : Int32)) (g1 : (gF w 3) = I j1) (b1 : j1 < 2147483648) (g2 : (gF (sA 1 (rp 200 (gA w 1) j1 x1) w) 3) = I j2) (b2 : j2 < 2147483648) (g3 : (gF (sA 2 (rp 200 (gA (sA 1 (rp 200 (gA w 1) j1 x1) w) 2) j2 x2) (sA 1 (rp 200 (gA w 1) j1 x1) w)) 3) = I j3) (b3 : j3 < 2147483648) (qw : (sF 3 ((gF (sA 3 (rp 200 (gA (sA 2 (rp 200 (gA (sA 1 (rp 200 (gA w 1) j1 x1) w) 2) j2 x2) (sA 1 (rp 200 (gA w 1) j1 x1) w)) 3) j3 x3) (sA 2 (rp 200 (gA (sA 1 (rp 200 (gA w 1) j1 x1) w) 2) j2 x2) (sA 1 (rp 200 (gA w 1) j1 x1) w))) 3) + (1 : Int32)) (sA 3 (rp 200 (gA (sA 2 (rp 200 (gA (sA 1 (rp 200 (gA w 1) j1 x1) w) 2) j2 x2) (sA 1 (rp 200 (gA w 1) j1 x1) w)) 3) j3 x3) (sA 2 (rp 200 (gA (sA 1 (rp 200 (gA w 1) j1 x1) w) 2) j2 x2) (sA 1 (rp 200 (gA w 1) j1 x1) w)))) = w') : Ev d 32 (ent0 32 [.ref 5, .int x1, .int x2, .int x3] (hp E w)) (.inl none, hp E w') := by
  subst qw
  refine Ev.run (c' := (7, [.ref 5, .int x1, .int x2, .int x3], [.int (200 : Int32), .int (gF w 3)], hp E w)) hM_32 3 rfl ?_
  refine Ev.icF hM_32 rfl (cI_geF c1) ?_
  refine Ev.run (c' := (19, [.ref 5, .int x1, .int x2, .int x3], [.int x1, .int (gF w 3), .ref 6], hp E w)) hM_32 5 rfl ?_
  rw [g1]
  refine Ev.callR hd hM_32 rfl (y := 56) (as := [.ref 6, .int (I j1), .int x1]) (rest := []) rfl (Nat.le_of_ble_eq_true rfl) (row_put (a := 6) (b := 6) (n := 200) rfl rfl (by decide) b1 (h' := hp E (sA 1 (rp 200 (gA w 1) j1 x1) w)) rfl) ?_
  refine Ev.run (c' := (31, [.ref 5, .int x1, .int x2, .int x3], [.int x2, .int (gF (sA 1 (rp 200 (gA w 1) j1 x1) w) 3), .ref 8], hp E (sA 1 (rp 200 (gA w 1) j1 x1) w))) hM_32 5 rfl ?_
  rw [g2]
  refine Ev.callR hd hM_32 rfl (y := 56) (as := [.ref 8, .int (I j2), .int x2]) (rest := []) rfl (Nat.le_of_ble_eq_true rfl) (row_put (a := 8) (b := 8) (n := 200) rfl rfl (by decide) b2 (h' := hp E (sA 2 (rp 200 (gA (sA 1 (rp 200 (gA w 1) j1 x1) w) 2) j2 x2) (sA 1 (rp 200 (gA w 1) j1 x1) w))) rfl) ?_
  refine Ev.run (c' := (43, [.ref 5, .int x1, .int x2, .int x3], [.int x3, .int (gF (sA 2 (rp 200 (gA (sA 1 (rp 200 (gA w 1) j1 x1) w) 2) j2 x2) (sA 1 (rp 200 (gA w 1) j1 x1) w)) 3), .ref 10], hp E (sA 2 (rp 200 (gA (sA 1 (rp 200 (gA w 1) j1 x1) w) 2) j2 x2) (sA 1 (rp 200 (gA w 1) j1 x1) w)))) hM_32 5 rfl ?_
  rw [g3]
  refine Ev.callR hd hM_32 rfl (y := 56) (as := [.ref 10, .int (I j3), .int x3]) (rest := []) rfl (Nat.le_of_ble_eq_true rfl) (row_put (a := 10) (b := 10) (n := 200) rfl rfl (by decide) b3 (h' := hp E (sA 3 (rp 200 (gA (sA 2 (rp 200 (gA (sA 1 (rp 200 (gA w 1) j1 x1) w) 2) j2 x2) (sA 1 (rp 200 (gA w 1) j1 x1) w)) 3) j3 x3) (sA 2 (rp 200 (gA (sA 1 (rp 200 (gA w 1) j1 x1) w) 2) j2 x2) (sA 1 (rp 200 (gA w 1) j1 x1) w)))) rfl) ?_
  refine Ev.run (c' := (56, [.ref 5, .int x1, .int x2, .int x3], [], hp E (sF 3 ((gF (sA 3 (rp 200 (gA (sA 2 (rp 200 (gA (sA 1 (rp 200 (gA w 1) j1 x1) w) 2) j2 x2) (sA 1 (rp 200 (gA w 1) j1 x1) w)) 3) j3 x3) (sA 2 (rp 200 (gA (sA 1 (rp 200 (gA w 1) j1 x1) w) 2) j2 x2) (sA 1 (rp 200 (gA w 1) j1 x1) w))) 3) + (1 : Int32)) (sA 3 (rp 200 (gA (sA 2 (rp 200 (gA (sA 1 (rp 200 (gA w 1) j1 x1) w) 2) j2 x2) (sA 1 (rp 200 (gA w 1) j1 x1) w)) 3) j3 x3) (sA 2 (rp 200 (gA (sA 1 (rp 200 (gA w 1) j1 x1) w) 2) j2 x2) (sA 1 (rp 200 (gA w 1) j1 x1) w)))))) hM_32 6 rfl ?_
  exact Ev.fin hM_32 rfl rfl
theorem p32_e_b {E : Nat × (Nat → Int32)} {w : Wd} {d : Nat} {x1 x2 x3 : Int32}  (c1 : ¬ (gF w 3) < (200 : Int32)) : Ev d 32 (ent0 32 [.ref 5, .int x1, .int x2, .int x3] (hp E w)) (.inl none, hp E w) := by
  refine Ev.run (c' := (7, [.ref 5, .int x1, .int x2, .int x3], [.int (200 : Int32), .int (gF w 3)], hp E w)) hM_32 3 rfl ?_
  refine Ev.icT hM_32 rfl (cI_geT c1) ?_
  exact Ev.fin hM_32 rfl rfl
theorem hM_33 : mAt 33 = some km_X3_latestRoom := rfl
theorem p33_e_a {E : Nat × (Nat → Int32)} {w : Wd} {d : Nat} {j1 : Nat} {y : Int32} (hd : 1 ≤ d) (g1 : ((gF w 3) - (1 : Int32)) = I j1) (b1 : j1 < 2147483648) (q : (rv 200 (gA w 1) j1) = y) : Ev d 33 (ent0 33 [.ref 5] (hp E w)) (.inl (some (.int y)), hp E w) := by
  subst q
  refine Ev.run (c' := (10, [.ref 5], [.int ((gF w 3) - (1 : Int32)), .ref 6], hp E w)) hM_33 6 rfl ?_
  rw [g1]
  refine Ev.callR hd hM_33 rfl (y := 55) (as := [.ref 6, .int (I j1)]) (rest := []) rfl (Nat.le_of_ble_eq_true rfl) (row_at (a := 6) (b := 7) (n := 200) rfl rfl (by decide) b1) ?_
  refine Ev.run (c' := (13, [.ref 5], [.int (rv 200 (gA w 1) j1)], hp E w)) hM_33 0 rfl ?_
  exact Ev.fin hM_33 rfl rfl
theorem hM_34 : mAt 34 = some km_X3_latestOther := rfl
theorem p34_e_a {E : Nat × (Nat → Int32)} {w : Wd} {d : Nat} {j1 : Nat} {y : Int32} (hd : 1 ≤ d) (g1 : ((gF w 3) - (1 : Int32)) = I j1) (b1 : j1 < 2147483648) (q : (rv 200 (gA w 2) j1) = y) : Ev d 34 (ent0 34 [.ref 5] (hp E w)) (.inl (some (.int y)), hp E w) := by
  subst q
  refine Ev.run (c' := (10, [.ref 5], [.int ((gF w 3) - (1 : Int32)), .ref 8], hp E w)) hM_34 6 rfl ?_
  rw [g1]
  refine Ev.callR hd hM_34 rfl (y := 55) (as := [.ref 8, .int (I j1)]) (rest := []) rfl (Nat.le_of_ble_eq_true rfl) (row_at (a := 8) (b := 9) (n := 200) rfl rfl (by decide) b1) ?_
  refine Ev.run (c' := (13, [.ref 5], [.int (rv 200 (gA w 2) j1)], hp E w)) hM_34 0 rfl ?_
  exact Ev.fin hM_34 rfl rfl
theorem hM_35 : mAt 35 = some km_X3_latestSet := rfl
theorem p35_e_a {E : Nat × (Nat → Int32)} {w : Wd} {d : Nat} {j1 : Nat} {y : Int32} (hd : 1 ≤ d) (g1 : ((gF w 3) - (1 : Int32)) = I j1) (b1 : j1 < 2147483648) (q : (rv 200 (gA w 3) j1) = y) : Ev d 35 (ent0 35 [.ref 5] (hp E w)) (.inl (some (.int y)), hp E w) := by
  subst q
  refine Ev.run (c' := (10, [.ref 5], [.int ((gF w 3) - (1 : Int32)), .ref 10], hp E w)) hM_35 6 rfl ?_
  rw [g1]
  refine Ev.callR hd hM_35 rfl (y := 55) (as := [.ref 10, .int (I j1)]) (rest := []) rfl (Nat.le_of_ble_eq_true rfl) (row_at (a := 10) (b := 11) (n := 200) rfl rfl (by decide) b1) ?_
  refine Ev.run (c' := (13, [.ref 5], [.int (rv 200 (gA w 3) j1)], hp E w)) hM_35 0 rfl ?_
  exact Ev.fin hM_35 rfl rfl
theorem hM_36 : mAt 36 = some km_X3_dropLatest := rfl
theorem p36_e_a {E : Nat × (Nat → Int32)} {w : Wd} {d : Nat} {w' : Wd} (c1 : 0 < (gF w 3)) (qw : (sF 3 ((gF w 3) - (1 : Int32)) w) = w') : Ev d 36 (ent0 36 [.ref 5] (hp E w)) (.inl none, hp E w') := by
  subst qw
  refine Ev.run (c' := (4, [.ref 5], [.int (gF w 3)], hp E w)) hM_36 2 rfl ?_
  refine Ev.ifF hM_36 rfl (cI_leF c1) ?_
  refine Ev.run (c' := (17, [.ref 5], [], hp E (sF 3 ((gF w 3) - (1 : Int32)) w))) hM_36 6 rfl ?_
  exact Ev.fin hM_36 rfl rfl
theorem p36_e_b {E : Nat × (Nat → Int32)} {w : Wd} {d : Nat}  (c1 : ¬ 0 < (gF w 3)) : Ev d 36 (ent0 36 [.ref 5] (hp E w)) (.inl none, hp E w) := by
  refine Ev.run (c' := (4, [.ref 5], [.int (gF w 3)], hp E w)) hM_36 2 rfl ?_
  refine Ev.ifT hM_36 rfl (cI_leT c1) ?_
  exact Ev.fin hM_36 rfl rfl
theorem hM_38 : mAt 38 = some km_X4_begin := rfl
theorem p38_e_a {E : Nat × (Nat → Int32)} {w : Wd} {d : Nat} {x1 : Int32} {w' : Wd} (hd : 1 ≤ d) (qw : (sF 2 ((gF (sA 0 (ra 9 (gA (sF 1 (if (1 : Int32) < (if (9 : Int32) < x1 then (9 : Int32) else x1) then (if (9 : Int32) < x1 then (9 : Int32) else x1) else (1 : Int32)) w) 0) (0 : Int32)) (sF 1 (if (1 : Int32) < (if (9 : Int32) < x1 then (9 : Int32) else x1) then (if (9 : Int32) < x1 then (9 : Int32) else x1) else (1 : Int32)) w)) 2) + (1 : Int32)) (sA 0 (ra 9 (gA (sF 1 (if (1 : Int32) < (if (9 : Int32) < x1 then (9 : Int32) else x1) then (if (9 : Int32) < x1 then (9 : Int32) else x1) else (1 : Int32)) w) 0) (0 : Int32)) (sF 1 (if (1 : Int32) < (if (9 : Int32) < x1 then (9 : Int32) else x1) then (if (9 : Int32) < x1 then (9 : Int32) else x1) else (1 : Int32)) w))) = w') : Ev d 38 (ent0 38 [.ref 2, .int x1] (hp E w)) (.inl none, hp E w') := by
  subst qw
  refine Ev.run (c' := (19, [.ref 2, .int x1], [.int (0 : Int32), .ref 3], hp E (sF 1 (if (1 : Int32) < (if (9 : Int32) < x1 then (9 : Int32) else x1) then (if (9 : Int32) < x1 then (9 : Int32) else x1) else (1 : Int32)) w))) hM_38 10 rfl ?_
  refine Ev.callR hd hM_38 rfl (y := 57) (as := [.ref 3, .int (0 : Int32)]) (rest := []) rfl (Nat.le_of_ble_eq_true rfl) (row_putAll (a := 3) (b := 3) (n := 9) rfl rfl (by decide) (by decide) (h' := hp E (sA 0 (ra 9 (gA (sF 1 (if (1 : Int32) < (if (9 : Int32) < x1 then (9 : Int32) else x1) then (if (9 : Int32) < x1 then (9 : Int32) else x1) else (1 : Int32)) w) 0) (0 : Int32)) (sF 1 (if (1 : Int32) < (if (9 : Int32) < x1 then (9 : Int32) else x1) then (if (9 : Int32) < x1 then (9 : Int32) else x1) else (1 : Int32)) w))) rfl) ?_
  refine Ev.run (c' := (32, [.ref 2, .int x1], [], hp E (sF 2 ((gF (sA 0 (ra 9 (gA (sF 1 (if (1 : Int32) < (if (9 : Int32) < x1 then (9 : Int32) else x1) then (if (9 : Int32) < x1 then (9 : Int32) else x1) else (1 : Int32)) w) 0) (0 : Int32)) (sF 1 (if (1 : Int32) < (if (9 : Int32) < x1 then (9 : Int32) else x1) then (if (9 : Int32) < x1 then (9 : Int32) else x1) else (1 : Int32)) w)) 2) + (1 : Int32)) (sA 0 (ra 9 (gA (sF 1 (if (1 : Int32) < (if (9 : Int32) < x1 then (9 : Int32) else x1) then (if (9 : Int32) < x1 then (9 : Int32) else x1) else (1 : Int32)) w) 0) (0 : Int32)) (sF 1 (if (1 : Int32) < (if (9 : Int32) < x1 then (9 : Int32) else x1) then (if (9 : Int32) < x1 then (9 : Int32) else x1) else (1 : Int32)) w))))) hM_38 6 rfl ?_
  exact Ev.fin hM_38 rfl rfl
theorem hM_41 : mAt 41 = some km_X4_has := rfl
theorem p41_e_a {E : Nat × (Nat → Int32)} {w : Wd} {d : Nat} {x1 : Int32}  (c1 : ¬ x1 < 0) (c2 : x1 < (gF w 1)) : Ev d 41 (ent0 41 [.ref 2, .int x1] (hp E w)) (.inl (some (.int (1 : Int32))), hp E w) := by
  refine Ev.run (c' := (1, [.ref 2, .int x1], [.int x1], hp E w)) hM_41 1 rfl ?_
  refine Ev.ifF hM_41 rfl (cI_ltF c1) ?_
  refine Ev.run (c' := (9, [.ref 2, .int x1], [.int (gF w 1), .int x1], hp E w)) hM_41 3 rfl ?_
  refine Ev.icF hM_41 rfl (cI_geF c2) ?_
  refine Ev.run (c' := (17, [.ref 2, .int x1], [.int (1 : Int32)], hp E w)) hM_41 2 rfl ?_
  exact Ev.fin hM_41 rfl rfl
theorem p41_e_b {E : Nat × (Nat → Int32)} {w : Wd} {d : Nat} {x1 : Int32}  (c1 : ¬ x1 < 0) (c2 : ¬ x1 < (gF w 1)) : Ev d 41 (ent0 41 [.ref 2, .int x1] (hp E w)) (.inl (some (.int (0 : Int32))), hp E w) := by
  refine Ev.run (c' := (1, [.ref 2, .int x1], [.int x1], hp E w)) hM_41 1 rfl ?_
  refine Ev.ifF hM_41 rfl (cI_ltF c1) ?_
  refine Ev.run (c' := (9, [.ref 2, .int x1], [.int (gF w 1), .int x1], hp E w)) hM_41 3 rfl ?_
  refine Ev.icT hM_41 rfl (cI_geT c2) ?_
  refine Ev.run (c' := (17, [.ref 2, .int x1], [.int (0 : Int32)], hp E w)) hM_41 1 rfl ?_
  exact Ev.fin hM_41 rfl rfl
theorem p41_e_c {E : Nat × (Nat → Int32)} {w : Wd} {d : Nat} {x1 : Int32}  (c1 : x1 < 0) : Ev d 41 (ent0 41 [.ref 2, .int x1] (hp E w)) (.inl (some (.int (0 : Int32))), hp E w) := by
  refine Ev.run (c' := (1, [.ref 2, .int x1], [.int x1], hp E w)) hM_41 1 rfl ?_
  refine Ev.ifT hM_41 rfl (cI_ltT c1) ?_
  refine Ev.run (c' := (17, [.ref 2, .int x1], [.int (0 : Int32)], hp E w)) hM_41 1 rfl ?_
  exact Ev.fin hM_41 rfl rfl
theorem hM_42 : mAt 42 = some km_X4_all := rfl
theorem p42_e_a {E : Nat × (Nat → Int32)} {w : Wd} {d : Nat} {y : Int32} (q : (((1 : Int32) <<< ((gF w 1) &&& 31)) - (1 : Int32)) = y) : Ev d 42 (ent0 42 [.ref 2] (hp E w)) (.inl (some (.int y)), hp E w) := by
  subst q
  refine Ev.run (c' := (8, [.ref 2], [.int (((1 : Int32) <<< ((gF w 1) &&& 31)) - (1 : Int32))], hp E w)) hM_42 6 rfl ?_
  exact Ev.fin hM_42 rfl rfl
theorem hM_44 : mAt 44 = some km_X4_hasDoor := rfl
theorem p44_e_a {E : Nat × (Nat → Int32)} {w : Wd} {d : Nat} {x1 x2 : Int32} {j1 : Nat} (hd2 : 2 ≤ d) (g1 : x1 = I j1) (b1 : j1 < 2147483648) (c1 : ¬ ((rv 9 (gA w 0) j1) &&& ((1 : Int32) <<< (x2 &&& 31))) = 0) : Ev d 44 (ent0 44 [.ref 2, .int x1, .int x2] (hp E w)) (.inl (some (.int (1 : Int32))), hp E w) := by
  have hd : 1 ≤ d := Nat.le_trans (by decide) hd2
  refine Ev.run (c' := (2, [.ref 2, .int x1, .int x2], [.int x1, .ref 2], hp E w)) hM_44 2 rfl ?_
  subst g1
  refine Ev.callR hd hM_44 rfl (y := 43) (as := [.ref 2, .int (I j1)]) (rest := []) rfl (Nat.le_of_ble_eq_true rfl) (nextTo_spec hd2 b1) ?_
  refine Ev.run (c' := (9, [.ref 2, .int (I j1), .int x2], [.int ((rv 9 (gA w 0) j1) &&& ((1 : Int32) <<< (x2 &&& 31)))], hp E w)) hM_44 4 rfl ?_
  refine Ev.ifF hM_44 rfl (cI_eqF c1) ?_
  refine Ev.run (c' := (17, [.ref 2, .int (I j1), .int x2], [.int (1 : Int32)], hp E w)) hM_44 2 rfl ?_
  exact Ev.fin hM_44 rfl rfl
theorem p44_e_b {E : Nat × (Nat → Int32)} {w : Wd} {d : Nat} {x1 x2 : Int32} {j1 : Nat} (hd2 : 2 ≤ d) (g1 : x1 = I j1) (b1 : j1 < 2147483648) (c1 : ((rv 9 (gA w 0) j1) &&& ((1 : Int32) <<< (x2 &&& 31))) = 0) : Ev d 44 (ent0 44 [.ref 2, .int x1, .int x2] (hp E w)) (.inl (some (.int (0 : Int32))), hp E w) := by
  have hd : 1 ≤ d := Nat.le_trans (by decide) hd2
  refine Ev.run (c' := (2, [.ref 2, .int x1, .int x2], [.int x1, .ref 2], hp E w)) hM_44 2 rfl ?_
  subst g1
  refine Ev.callR hd hM_44 rfl (y := 43) (as := [.ref 2, .int (I j1)]) (rest := []) rfl (Nat.le_of_ble_eq_true rfl) (nextTo_spec hd2 b1) ?_
  refine Ev.run (c' := (9, [.ref 2, .int (I j1), .int x2], [.int ((rv 9 (gA w 0) j1) &&& ((1 : Int32) <<< (x2 &&& 31)))], hp E w)) hM_44 4 rfl ?_
  refine Ev.ifT hM_44 rfl (cI_eqT c1) ?_
  refine Ev.run (c' := (17, [.ref 2, .int (I j1), .int x2], [.int (0 : Int32)], hp E w)) hM_44 1 rfl ?_
  exact Ev.fin hM_44 rfl rfl
theorem hM_45 : mAt 45 = some km_X4_turnDoor := rfl
theorem p45_e_a {E : Nat × (Nat → Int32)} {w : Wd} {d : Nat} {x1 x2 : Int32} {j1 : Nat} {j2 : Nat} {w' : Wd} (hd2 : 2 ≤ d) (g1 : x1 = I j1) (b1 : j1 < 2147483648) (g2 : x2 = I j2) (b2 : j2 < 2147483648) (qw : (sF 2 ((gF (sA 0 (rp 9 (gA (sA 0 (rp 9 (gA w 0) j1 ((rv 9 (gA w 0) j1) ^^^ ((1 : Int32) <<< ((I j2) &&& 31)))) w) 0) j2 ((rv 9 (gA (sA 0 (rp 9 (gA w 0) j1 ((rv 9 (gA w 0) j1) ^^^ ((1 : Int32) <<< ((I j2) &&& 31)))) w) 0) j2) ^^^ ((1 : Int32) <<< ((I j1) &&& 31)))) (sA 0 (rp 9 (gA w 0) j1 ((rv 9 (gA w 0) j1) ^^^ ((1 : Int32) <<< ((I j2) &&& 31)))) w)) 2) + (1 : Int32)) (sA 0 (rp 9 (gA (sA 0 (rp 9 (gA w 0) j1 ((rv 9 (gA w 0) j1) ^^^ ((1 : Int32) <<< ((I j2) &&& 31)))) w) 0) j2 ((rv 9 (gA (sA 0 (rp 9 (gA w 0) j1 ((rv 9 (gA w 0) j1) ^^^ ((1 : Int32) <<< ((I j2) &&& 31)))) w) 0) j2) ^^^ ((1 : Int32) <<< ((I j1) &&& 31)))) (sA 0 (rp 9 (gA w 0) j1 ((rv 9 (gA w 0) j1) ^^^ ((1 : Int32) <<< ((I j2) &&& 31)))) w))) = w') : Ev d 45 (ent0 45 [.ref 2, .int x1, .int x2] (hp E w)) (.inl none, hp E w') := by
  have hd : 1 ≤ d := Nat.le_trans (by decide) hd2
  subst qw
  refine Ev.run (c' := (7, [.ref 2, .int x1, .int x2], [.int x1, .ref 2, .int x1, .ref 3], hp E w)) hM_45 5 rfl ?_
  subst g1
  refine Ev.callR hd hM_45 rfl (y := 43) (as := [.ref 2, .int (I j1)]) (rest := [.int (I j1), .ref 3]) rfl (Nat.le_of_ble_eq_true rfl) (nextTo_spec hd2 b1) ?_
  refine Ev.run (c' := (14, [.ref 2, .int (I j1), .int x2], [.int ((rv 9 (gA w 0) j1) ^^^ ((1 : Int32) <<< (x2 &&& 31))), .int (I j1), .ref 3], hp E w)) hM_45 4 rfl ?_
  refine Ev.callR hd hM_45 rfl (y := 56) (as := [.ref 3, .int (I j1), .int ((rv 9 (gA w 0) j1) ^^^ ((1 : Int32) <<< (x2 &&& 31)))]) (rest := []) rfl (Nat.le_of_ble_eq_true rfl) (row_put (a := 3) (b := 3) (n := 9) rfl rfl (by decide) b1 (h' := hp E (sA 0 (rp 9 (gA w 0) j1 ((rv 9 (gA w 0) j1) ^^^ ((1 : Int32) <<< (x2 &&& 31)))) w)) rfl) ?_
  refine Ev.run (c' := (24, [.ref 2, .int (I j1), .int x2], [.int x2, .ref 2, .int x2, .ref 3], hp E (sA 0 (rp 9 (gA w 0) j1 ((rv 9 (gA w 0) j1) ^^^ ((1 : Int32) <<< (x2 &&& 31)))) w))) hM_45 5 rfl ?_
  subst g2
  refine Ev.callR hd hM_45 rfl (y := 43) (as := [.ref 2, .int (I j2)]) (rest := [.int (I j2), .ref 3]) rfl (Nat.le_of_ble_eq_true rfl) (nextTo_spec hd2 b2) ?_
  refine Ev.run (c' := (31, [.ref 2, .int (I j1), .int (I j2)], [.int ((rv 9 (gA (sA 0 (rp 9 (gA w 0) j1 ((rv 9 (gA w 0) j1) ^^^ ((1 : Int32) <<< ((I j2) &&& 31)))) w) 0) j2) ^^^ ((1 : Int32) <<< ((I j1) &&& 31))), .int (I j2), .ref 3], hp E (sA 0 (rp 9 (gA w 0) j1 ((rv 9 (gA w 0) j1) ^^^ ((1 : Int32) <<< ((I j2) &&& 31)))) w))) hM_45 4 rfl ?_
  refine Ev.callR hd hM_45 rfl (y := 56) (as := [.ref 3, .int (I j2), .int ((rv 9 (gA (sA 0 (rp 9 (gA w 0) j1 ((rv 9 (gA w 0) j1) ^^^ ((1 : Int32) <<< ((I j2) &&& 31)))) w) 0) j2) ^^^ ((1 : Int32) <<< ((I j1) &&& 31)))]) (rest := []) rfl (Nat.le_of_ble_eq_true rfl) (row_put (a := 3) (b := 3) (n := 9) rfl rfl (by decide) b2 (h' := hp E (sA 0 (rp 9 (gA (sA 0 (rp 9 (gA w 0) j1 ((rv 9 (gA w 0) j1) ^^^ ((1 : Int32) <<< ((I j2) &&& 31)))) w) 0) j2 ((rv 9 (gA (sA 0 (rp 9 (gA w 0) j1 ((rv 9 (gA w 0) j1) ^^^ ((1 : Int32) <<< ((I j2) &&& 31)))) w) 0) j2) ^^^ ((1 : Int32) <<< ((I j1) &&& 31)))) (sA 0 (rp 9 (gA w 0) j1 ((rv 9 (gA w 0) j1) ^^^ ((1 : Int32) <<< ((I j2) &&& 31)))) w))) rfl) ?_
  refine Ev.run (c' := (44, [.ref 2, .int (I j1), .int (I j2)], [], hp E (sF 2 ((gF (sA 0 (rp 9 (gA (sA 0 (rp 9 (gA w 0) j1 ((rv 9 (gA w 0) j1) ^^^ ((1 : Int32) <<< ((I j2) &&& 31)))) w) 0) j2 ((rv 9 (gA (sA 0 (rp 9 (gA w 0) j1 ((rv 9 (gA w 0) j1) ^^^ ((1 : Int32) <<< ((I j2) &&& 31)))) w) 0) j2) ^^^ ((1 : Int32) <<< ((I j1) &&& 31)))) (sA 0 (rp 9 (gA w 0) j1 ((rv 9 (gA w 0) j1) ^^^ ((1 : Int32) <<< ((I j2) &&& 31)))) w)) 2) + (1 : Int32)) (sA 0 (rp 9 (gA (sA 0 (rp 9 (gA w 0) j1 ((rv 9 (gA w 0) j1) ^^^ ((1 : Int32) <<< ((I j2) &&& 31)))) w) 0) j2 ((rv 9 (gA (sA 0 (rp 9 (gA w 0) j1 ((rv 9 (gA w 0) j1) ^^^ ((1 : Int32) <<< ((I j2) &&& 31)))) w) 0) j2) ^^^ ((1 : Int32) <<< ((I j1) &&& 31)))) (sA 0 (rp 9 (gA w 0) j1 ((rv 9 (gA w 0) j1) ^^^ ((1 : Int32) <<< ((I j2) &&& 31)))) w))))) hM_45 6 rfl ?_
  exact Ev.fin hM_45 rfl rfl
theorem hM_46 : mAt 46 = some km_X4_isPlace := rfl
theorem p46_e_a {E : Nat × (Nat → Int32)} {w : Wd} {d : Nat} {x1 : Int32} {w1 : Wd} {v1 : Int32} (hd : 1 ≤ d) (h1 : Ev (d - 1) 41 (ent0 41 [.ref 2, .int x1] (hp E w)) (.inl (some (.int v1)), hp E w1)) (c1 : v1 = 0) (c2 : x1 = (9 : Int32)) : Ev d 46 (ent0 46 [.ref 2, .int x1] (hp E w)) (.inl (some (.int (1 : Int32))), hp E w1) := by
  refine Ev.run (c' := (2, [.ref 2, .int x1], [.int x1, .ref 2], hp E w)) hM_46 2 rfl ?_
  refine Ev.callR hd hM_46 rfl (y := 41) (as := [.ref 2, .int x1]) (rest := []) rfl (Nat.le_of_ble_eq_true rfl) h1 ?_
  refine Ev.run (c' := (5, [.ref 2, .int x1], [.int v1], hp E w1)) hM_46 0 rfl ?_
  refine Ev.ifF hM_46 rfl (cI_neF c1) ?_
  refine Ev.run (c' := (11, [.ref 2, .int x1], [.int (9 : Int32), .int x1], hp E w1)) hM_46 2 rfl ?_
  refine Ev.icF hM_46 rfl (cI_neF c2) ?_
  refine Ev.run (c' := (19, [.ref 2, .int x1], [.int (1 : Int32)], hp E w1)) hM_46 2 rfl ?_
  exact Ev.fin hM_46 rfl rfl
theorem p46_e_b {E : Nat × (Nat → Int32)} {w : Wd} {d : Nat} {x1 : Int32} {w1 : Wd} {v1 : Int32} (hd : 1 ≤ d) (h1 : Ev (d - 1) 41 (ent0 41 [.ref 2, .int x1] (hp E w)) (.inl (some (.int v1)), hp E w1)) (c1 : v1 = 0) (c2 : ¬ x1 = (9 : Int32)) : Ev d 46 (ent0 46 [.ref 2, .int x1] (hp E w)) (.inl (some (.int (0 : Int32))), hp E w1) := by
  refine Ev.run (c' := (2, [.ref 2, .int x1], [.int x1, .ref 2], hp E w)) hM_46 2 rfl ?_
  refine Ev.callR hd hM_46 rfl (y := 41) (as := [.ref 2, .int x1]) (rest := []) rfl (Nat.le_of_ble_eq_true rfl) h1 ?_
  refine Ev.run (c' := (5, [.ref 2, .int x1], [.int v1], hp E w1)) hM_46 0 rfl ?_
  refine Ev.ifF hM_46 rfl (cI_neF c1) ?_
  refine Ev.run (c' := (11, [.ref 2, .int x1], [.int (9 : Int32), .int x1], hp E w1)) hM_46 2 rfl ?_
  refine Ev.icT hM_46 rfl (cI_neT c2) ?_
  refine Ev.run (c' := (19, [.ref 2, .int x1], [.int (0 : Int32)], hp E w1)) hM_46 1 rfl ?_
  exact Ev.fin hM_46 rfl rfl
theorem p46_e_c {E : Nat × (Nat → Int32)} {w : Wd} {d : Nat} {x1 : Int32} {w1 : Wd} {v1 : Int32} (hd : 1 ≤ d) (h1 : Ev (d - 1) 41 (ent0 41 [.ref 2, .int x1] (hp E w)) (.inl (some (.int v1)), hp E w1)) (c1 : ¬ v1 = 0) : Ev d 46 (ent0 46 [.ref 2, .int x1] (hp E w)) (.inl (some (.int (1 : Int32))), hp E w1) := by
  refine Ev.run (c' := (2, [.ref 2, .int x1], [.int x1, .ref 2], hp E w)) hM_46 2 rfl ?_
  refine Ev.callR hd hM_46 rfl (y := 41) (as := [.ref 2, .int x1]) (rest := []) rfl (Nat.le_of_ble_eq_true rfl) h1 ?_
  refine Ev.run (c' := (5, [.ref 2, .int x1], [.int v1], hp E w1)) hM_46 0 rfl ?_
  refine Ev.ifT hM_46 rfl (cI_neT c1) ?_
  refine Ev.run (c' := (19, [.ref 2, .int x1], [.int (1 : Int32)], hp E w1)) hM_46 2 rfl ?_
  exact Ev.fin hM_46 rfl rfl
theorem hM_47 : mAt 47 = some km_X4_nearTo := rfl
theorem p47_e_a {E : Nat × (Nat → Int32)} {w : Wd} {d : Nat} {x1 : Int32} {j1 : Nat} {y : Int32} (hd : 1 ≤ d) (g1 : x1 = I j1) (b1 : j1 < 2147483648) (q : ((rv 9 (gA w 0) j1) ||| ((1 : Int32) <<< ((I j1) &&& 31))) = y) : Ev d 47 (ent0 47 [.ref 2, .int x1] (hp E w)) (.inl (some (.int y)), hp E w) := by
  subst q
  refine Ev.run (c' := (5, [.ref 2, .int x1], [.int x1, .ref 3], hp E w)) hM_47 3 rfl ?_
  subst g1
  refine Ev.callR hd hM_47 rfl (y := 55) (as := [.ref 3, .int (I j1)]) (rest := []) rfl (Nat.le_of_ble_eq_true rfl) (row_at (a := 3) (b := 4) (n := 9) rfl rfl (by decide) b1) ?_
  refine Ev.run (c' := (12, [.ref 2, .int (I j1)], [.int ((rv 9 (gA w 0) j1) ||| ((1 : Int32) <<< ((I j1) &&& 31)))], hp E w)) hM_47 4 rfl ?_
  exact Ev.fin hM_47 rfl rfl
theorem hM_48 : mAt 48 = some km_X4_areNear := rfl
theorem p48_e_a {E : Nat × (Nat → Int32)} {w : Wd} {d : Nat} {x1 x2 : Int32} {j1 : Nat} (hd : 1 ≤ d) (c1 : ¬ x1 = x2) (g1 : x1 = I j1) (b1 : j1 < 2147483648) (c2 : ¬ ((rv 9 (gA w 0) j1) &&& ((1 : Int32) <<< (x2 &&& 31))) = 0) : Ev d 48 (ent0 48 [.ref 2, .int x1, .int x2] (hp E w)) (.inl (some (.int (1 : Int32))), hp E w) := by
  refine Ev.run (c' := (2, [.ref 2, .int x1, .int x2], [.int x2, .int x1], hp E w)) hM_48 2 rfl ?_
  refine Ev.icF hM_48 rfl (cI_eqF c1) ?_
  refine Ev.run (c' := (10, [.ref 2, .int x1, .int x2], [.int x1, .ref 3], hp E w)) hM_48 3 rfl ?_
  subst g1
  refine Ev.callR hd hM_48 rfl (y := 55) (as := [.ref 3, .int (I j1)]) (rest := []) rfl (Nat.le_of_ble_eq_true rfl) (row_at (a := 3) (b := 4) (n := 9) rfl rfl (by decide) b1) ?_
  refine Ev.run (c' := (17, [.ref 2, .int (I j1), .int x2], [.int ((rv 9 (gA w 0) j1) &&& ((1 : Int32) <<< (x2 &&& 31)))], hp E w)) hM_48 4 rfl ?_
  refine Ev.ifF hM_48 rfl (cI_eqF c2) ?_
  refine Ev.run (c' := (25, [.ref 2, .int (I j1), .int x2], [.int (1 : Int32)], hp E w)) hM_48 2 rfl ?_
  exact Ev.fin hM_48 rfl rfl
theorem p48_e_b {E : Nat × (Nat → Int32)} {w : Wd} {d : Nat} {x1 x2 : Int32} {j1 : Nat} (hd : 1 ≤ d) (c1 : ¬ x1 = x2) (g1 : x1 = I j1) (b1 : j1 < 2147483648) (c2 : ((rv 9 (gA w 0) j1) &&& ((1 : Int32) <<< (x2 &&& 31))) = 0) : Ev d 48 (ent0 48 [.ref 2, .int x1, .int x2] (hp E w)) (.inl (some (.int (0 : Int32))), hp E w) := by
  refine Ev.run (c' := (2, [.ref 2, .int x1, .int x2], [.int x2, .int x1], hp E w)) hM_48 2 rfl ?_
  refine Ev.icF hM_48 rfl (cI_eqF c1) ?_
  refine Ev.run (c' := (10, [.ref 2, .int x1, .int x2], [.int x1, .ref 3], hp E w)) hM_48 3 rfl ?_
  subst g1
  refine Ev.callR hd hM_48 rfl (y := 55) (as := [.ref 3, .int (I j1)]) (rest := []) rfl (Nat.le_of_ble_eq_true rfl) (row_at (a := 3) (b := 4) (n := 9) rfl rfl (by decide) b1) ?_
  refine Ev.run (c' := (17, [.ref 2, .int (I j1), .int x2], [.int ((rv 9 (gA w 0) j1) &&& ((1 : Int32) <<< (x2 &&& 31)))], hp E w)) hM_48 4 rfl ?_
  refine Ev.ifT hM_48 rfl (cI_eqT c2) ?_
  refine Ev.run (c' := (25, [.ref 2, .int (I j1), .int x2], [.int (0 : Int32)], hp E w)) hM_48 1 rfl ?_
  exact Ev.fin hM_48 rfl rfl
theorem p48_e_c {E : Nat × (Nat → Int32)} {w : Wd} {d : Nat} {x1 x2 : Int32}  (c1 : x1 = x2) : Ev d 48 (ent0 48 [.ref 2, .int x1, .int x2] (hp E w)) (.inl (some (.int (1 : Int32))), hp E w) := by
  refine Ev.run (c' := (2, [.ref 2, .int x1, .int x2], [.int x2, .int x1], hp E w)) hM_48 2 rfl ?_
  refine Ev.icT hM_48 rfl (cI_eqT c1) ?_
  refine Ev.run (c' := (25, [.ref 2, .int x1, .int x2], [.int (1 : Int32)], hp E w)) hM_48 2 rfl ?_
  exact Ev.fin hM_48 rfl rfl
theorem hM_49 : mAt 49 = some km_X4_nextToSome := rfl
theorem p49_e_a {E : Nat × (Nat → Int32)} {w : Wd} {d : Nat} {x1 : Int32} {o : Ou}  (e : Ev d 49 (4, [.ref 2, .int x1, .int (0 : Int32), .int (0 : Int32)], [], hp E w) o) : Ev d 49 (ent0 49 [.ref 2, .int x1] (hp E w)) o := by
  refine Ev.run (c' := (4, [.ref 2, .int x1, .int (0 : Int32), .int (0 : Int32)], [], hp E w)) hM_49 4 rfl ?_
  exact e
theorem p49_4_a {E : Nat × (Nat → Int32)} {w : Wd} {d : Nat} {x1 x2 x3 : Int32} {o : Ou} {j1 : Nat} {y2 : Int32} {y3 : Int32} (hd2 : 2 ≤ d) (c1 : x3 < (gF w 1)) (c2 : ¬ (x1 &&& ((1 : Int32) <<< (x3 &&& 31))) = 0) (g1 : x3 = I j1) (b1 : j1 < 2147483648) (q2 : (x2 ||| (rv 9 (gA w 0) j1)) = y2) (q3 : ((I j1) + (1 : Int32)) = y3) (e : Ev d 49 (4, [.ref 2, .int x1, .int y2, .int y3], [], hp E w) o) : Ev d 49 (4, [.ref 2, .int x1, .int x2, .int x3], [], hp E w) o := by
  have hd : 1 ≤ d := Nat.le_trans (by decide) hd2
  subst q3
  subst q2
  refine Ev.run (c' := (9, [.ref 2, .int x1, .int x2, .int x3], [.int (gF w 1), .int x3], hp E w)) hM_49 3 rfl ?_
  refine Ev.icF hM_49 rfl (cI_geF c1) ?_
  refine Ev.run (c' := (17, [.ref 2, .int x1, .int x2, .int x3], [.int (x1 &&& ((1 : Int32) <<< (x3 &&& 31)))], hp E w)) hM_49 5 rfl ?_
  refine Ev.ifF hM_49 rfl (cI_eqF c2) ?_
  refine Ev.run (c' := (23, [.ref 2, .int x1, .int x2, .int x3], [.int x3, .ref 2, .int x2], hp E w)) hM_49 3 rfl ?_
  subst g1
  refine Ev.callR hd hM_49 rfl (y := 43) (as := [.ref 2, .int (I j1)]) (rest := [.int x2]) rfl (Nat.le_of_ble_eq_true rfl) (nextTo_spec hd2 b1) ?_
  refine Ev.run (c' := (4, [.ref 2, .int x1, .int (x2 ||| (rv 9 (gA w 0) j1)), .int ((I j1) + (1 : Int32))], [], hp E w)) hM_49 4 rfl ?_
  exact e
theorem p49_4_b {E : Nat × (Nat → Int32)} {w : Wd} {d : Nat} {x1 x2 x3 : Int32} {o : Ou} {y3 : Int32} (c1 : x3 < (gF w 1)) (c2 : (x1 &&& ((1 : Int32) <<< (x3 &&& 31))) = 0) (q3 : (x3 + (1 : Int32)) = y3) (e : Ev d 49 (4, [.ref 2, .int x1, .int x2, .int y3], [], hp E w) o) : Ev d 49 (4, [.ref 2, .int x1, .int x2, .int x3], [], hp E w) o := by
  subst q3
  refine Ev.run (c' := (9, [.ref 2, .int x1, .int x2, .int x3], [.int (gF w 1), .int x3], hp E w)) hM_49 3 rfl ?_
  refine Ev.icF hM_49 rfl (cI_geF c1) ?_
  refine Ev.run (c' := (17, [.ref 2, .int x1, .int x2, .int x3], [.int (x1 &&& ((1 : Int32) <<< (x3 &&& 31)))], hp E w)) hM_49 5 rfl ?_
  refine Ev.ifT hM_49 rfl (cI_eqT c2) ?_
  refine Ev.run (c' := (4, [.ref 2, .int x1, .int x2, .int (x3 + (1 : Int32))], [], hp E w)) hM_49 2 rfl ?_
  exact e
theorem p49_4_c {E : Nat × (Nat → Int32)} {w : Wd} {d : Nat} {x1 x2 x3 : Int32}  (c1 : ¬ x3 < (gF w 1)) : Ev d 49 (4, [.ref 2, .int x1, .int x2, .int x3], [], hp E w) (.inl (some (.int x2)), hp E w) := by
  refine Ev.run (c' := (9, [.ref 2, .int x1, .int x2, .int x3], [.int (gF w 1), .int x3], hp E w)) hM_49 3 rfl ?_
  refine Ev.icT hM_49 rfl (cI_geT c1) ?_
  refine Ev.run (c' := (35, [.ref 2, .int x1, .int x2, .int x3], [.int x2], hp E w)) hM_49 1 rfl ?_
  exact Ev.fin hM_49 rfl rfl
theorem hM_50 : mAt 50 = some km_X4_afterShot := rfl
theorem p50_e_a {E : Nat × (Nat → Int32)} {w : Wd} {d : Nat} {x1 x2 : Int32} {z1 : Int32} {w1 : Wd} {v1 : Int32} (hd : 1 ≤ d) (a1 : (x1 &&& (((1 : Int32) <<< (x2 &&& 31)) ^^^ (-1 : Int32))) = z1) (h1 : Ev (d - 1) 49 (ent0 49 [.ref 2, .int z1] (hp E w)) (.inl (some (.int v1)), hp E w1)) : Ev d 50 (ent0 50 [.ref 2, .int x1, .int x2] (hp E w)) (.inl (some (.int v1)), hp E w1) := by
  refine Ev.run (c' := (8, [.ref 2, .int x1, .int x2], [.int (x1 &&& (((1 : Int32) <<< (x2 &&& 31)) ^^^ (-1 : Int32))), .ref 2], hp E w)) hM_50 8 rfl ?_
  rw [← a1] at h1
  refine Ev.callR hd hM_50 rfl (y := 49) (as := [.ref 2, .int (x1 &&& (((1 : Int32) <<< (x2 &&& 31)) ^^^ (-1 : Int32)))]) (rest := []) rfl (Nat.le_of_ble_eq_true rfl) h1 ?_
  refine Ev.run (c' := (11, [.ref 2, .int x1, .int x2], [.int v1], hp E w1)) hM_50 0 rfl ?_
  exact Ev.fin hM_50 rfl rfl
theorem hM_51 : mAt 51 = some km_X4_losesAllCorners := rfl
theorem p51_e_a {E : Nat × (Nat → Int32)} {w : Wd} {d : Nat} {o : Ou} {w1 : Wd} {v1 : Int32} (hd : 1 ≤ d) (h1 : Ev (d - 1) 42 (ent0 42 [.ref 2] (hp E w)) (.inl (some (.int v1)), hp E w1)) (e : Ev d 51 (7, [.ref 2, .int v1, .int (1 : Int32), jk], [], hp E w1) o) : Ev d 51 (ent0 51 [.ref 2] (hp E w)) o := by
  refine Ev.run (c' := (1, [.ref 2, jk, jk, jk], [.ref 2], hp E w)) hM_51 1 rfl ?_
  refine Ev.callR hd hM_51 rfl (y := 42) (as := [.ref 2]) (rest := []) rfl (Nat.le_of_ble_eq_true rfl) h1 ?_
  refine Ev.run (c' := (7, [.ref 2, .int v1, .int (1 : Int32), jk], [], hp E w1)) hM_51 3 rfl ?_
  exact e
theorem p51_7_a {E : Nat × (Nat → Int32)} {w : Wd} {d : Nat} {x1 x2 : Int32} {u3 : Value} {w1 : Wd} {v1 : Int32} (hd : 1 ≤ d) (c1 : x2 < (gF w 1)) (h1 : Ev (d - 1) 52 (ent0 52 [.ref 2, .int x1] (hp E w)) (.inl (some (.int v1)), hp E w1)) (c2 : v1 = (-1 : Int32)) : Ev d 51 (7, [.ref 2, .int x1, .int x2, u3], [], hp E w) (.inl (some (.int (0 : Int32))), hp E w1) := by
  refine Ev.run (c' := (12, [.ref 2, .int x1, .int x2, u3], [.int (gF w 1), .int x2], hp E w)) hM_51 3 rfl ?_
  refine Ev.icF hM_51 rfl (cI_geF c1) ?_
  refine Ev.run (c' := (17, [.ref 2, .int x1, .int x2, u3], [.int x1, .ref 2], hp E w)) hM_51 2 rfl ?_
  refine Ev.callR hd hM_51 rfl (y := 52) (as := [.ref 2, .int x1]) (rest := []) rfl (Nat.le_of_ble_eq_true rfl) h1 ?_
  refine Ev.run (c' := (23, [.ref 2, .int x1, .int x2, .int v1], [.int (-1 : Int32), .int v1], hp E w1)) hM_51 3 rfl ?_
  refine Ev.icF hM_51 rfl (cI_neF c2) ?_
  refine Ev.run (c' := (27, [.ref 2, .int x1, .int x2, .int v1], [.int (0 : Int32)], hp E w1)) hM_51 1 rfl ?_
  exact Ev.fin hM_51 rfl rfl
theorem p51_7_b {E : Nat × (Nat → Int32)} {w : Wd} {d : Nat} {x1 x2 : Int32} {u3 : Value} {o : Ou} {w1 : Wd} {v1 : Int32} {y1 : Int32} {y2 : Int32} (hd : 1 ≤ d) (c1 : x2 < (gF w 1)) (h1 : Ev (d - 1) 52 (ent0 52 [.ref 2, .int x1] (hp E w)) (.inl (some (.int v1)), hp E w1)) (c2 : ¬ v1 = (-1 : Int32)) (q1 : (x1 &&& (((1 : Int32) <<< (v1 &&& 31)) ^^^ (-1 : Int32))) = y1) (q2 : (x2 + (1 : Int32)) = y2) (e : Ev d 51 (7, [.ref 2, .int y1, .int y2, .int v1], [], hp E w1) o) : Ev d 51 (7, [.ref 2, .int x1, .int x2, u3], [], hp E w) o := by
  subst q2
  subst q1
  refine Ev.run (c' := (12, [.ref 2, .int x1, .int x2, u3], [.int (gF w 1), .int x2], hp E w)) hM_51 3 rfl ?_
  refine Ev.icF hM_51 rfl (cI_geF c1) ?_
  refine Ev.run (c' := (17, [.ref 2, .int x1, .int x2, u3], [.int x1, .ref 2], hp E w)) hM_51 2 rfl ?_
  refine Ev.callR hd hM_51 rfl (y := 52) (as := [.ref 2, .int x1]) (rest := []) rfl (Nat.le_of_ble_eq_true rfl) h1 ?_
  refine Ev.run (c' := (23, [.ref 2, .int x1, .int x2, .int v1], [.int (-1 : Int32), .int v1], hp E w1)) hM_51 3 rfl ?_
  refine Ev.icT hM_51 rfl (cI_neT c2) ?_
  refine Ev.run (c' := (7, [.ref 2, .int (x1 &&& (((1 : Int32) <<< (v1 &&& 31)) ^^^ (-1 : Int32))), .int (x2 + (1 : Int32)), .int v1], [], hp E w1)) hM_51 10 rfl ?_
  exact e
theorem p51_7_c {E : Nat × (Nat → Int32)} {w : Wd} {d : Nat} {x1 x2 : Int32} {u3 : Value}  (c1 : ¬ x2 < (gF w 1)) : Ev d 51 (7, [.ref 2, .int x1, .int x2, u3], [], hp E w) (.inl (some (.int (1 : Int32))), hp E w) := by
  refine Ev.run (c' := (12, [.ref 2, .int x1, .int x2, u3], [.int (gF w 1), .int x2], hp E w)) hM_51 3 rfl ?_
  refine Ev.icT hM_51 rfl (cI_geT c1) ?_
  refine Ev.run (c' := (43, [.ref 2, .int x1, .int x2, u3], [.int (1 : Int32)], hp E w)) hM_51 1 rfl ?_
  exact Ev.fin hM_51 rfl rfl
theorem hM_52 : mAt 52 = some km_X4_lowestCorner := rfl
theorem p52_e_a {E : Nat × (Nat → Int32)} {w : Wd} {d : Nat} {x1 : Int32} {o : Ou}  (e : Ev d 52 (2, [.ref 2, .int x1, .int (0 : Int32)], [], hp E w) o) : Ev d 52 (ent0 52 [.ref 2, .int x1] (hp E w)) o := by
  refine Ev.run (c' := (2, [.ref 2, .int x1, .int (0 : Int32)], [], hp E w)) hM_52 2 rfl ?_
  exact e
theorem p52_2_a {E : Nat × (Nat → Int32)} {w : Wd} {d : Nat} {x1 x2 : Int32} {w1 : Wd} {v1 : Int32} (hd : 1 ≤ d) (c1 : x2 < (gF w 1)) (c2 : ¬ (x1 &&& ((1 : Int32) <<< (x2 &&& 31))) = 0) (h1 : Ev (d - 1) 53 (ent0 53 [.ref 2, .int x2, .int x1] (hp E w)) (.inl (some (.int v1)), hp E w1)) (c3 : ¬ v1 = 0) : Ev d 52 (2, [.ref 2, .int x1, .int x2], [], hp E w) (.inl (some (.int x2)), hp E w1) := by
  refine Ev.run (c' := (7, [.ref 2, .int x1, .int x2], [.int (gF w 1), .int x2], hp E w)) hM_52 3 rfl ?_
  refine Ev.icF hM_52 rfl (cI_geF c1) ?_
  refine Ev.run (c' := (15, [.ref 2, .int x1, .int x2], [.int (x1 &&& ((1 : Int32) <<< (x2 &&& 31)))], hp E w)) hM_52 5 rfl ?_
  refine Ev.ifF hM_52 rfl (cI_eqF c2) ?_
  refine Ev.run (c' := (21, [.ref 2, .int x1, .int x2], [.int x1, .int x2, .ref 2], hp E w)) hM_52 3 rfl ?_
  refine Ev.callR hd hM_52 rfl (y := 53) (as := [.ref 2, .int x2, .int x1]) (rest := []) rfl (Nat.le_of_ble_eq_true rfl) h1 ?_
  refine Ev.run (c' := (24, [.ref 2, .int x1, .int x2], [.int v1], hp E w1)) hM_52 0 rfl ?_
  refine Ev.ifF hM_52 rfl (cI_eqF c3) ?_
  refine Ev.run (c' := (28, [.ref 2, .int x1, .int x2], [.int x2], hp E w1)) hM_52 1 rfl ?_
  exact Ev.fin hM_52 rfl rfl
theorem p52_2_b {E : Nat × (Nat → Int32)} {w : Wd} {d : Nat} {x1 x2 : Int32} {o : Ou} {w1 : Wd} {v1 : Int32} {y2 : Int32} (hd : 1 ≤ d) (c1 : x2 < (gF w 1)) (c2 : ¬ (x1 &&& ((1 : Int32) <<< (x2 &&& 31))) = 0) (h1 : Ev (d - 1) 53 (ent0 53 [.ref 2, .int x2, .int x1] (hp E w)) (.inl (some (.int v1)), hp E w1)) (c3 : v1 = 0) (q2 : (x2 + (1 : Int32)) = y2) (e : Ev d 52 (2, [.ref 2, .int x1, .int y2], [], hp E w1) o) : Ev d 52 (2, [.ref 2, .int x1, .int x2], [], hp E w) o := by
  subst q2
  refine Ev.run (c' := (7, [.ref 2, .int x1, .int x2], [.int (gF w 1), .int x2], hp E w)) hM_52 3 rfl ?_
  refine Ev.icF hM_52 rfl (cI_geF c1) ?_
  refine Ev.run (c' := (15, [.ref 2, .int x1, .int x2], [.int (x1 &&& ((1 : Int32) <<< (x2 &&& 31)))], hp E w)) hM_52 5 rfl ?_
  refine Ev.ifF hM_52 rfl (cI_eqF c2) ?_
  refine Ev.run (c' := (21, [.ref 2, .int x1, .int x2], [.int x1, .int x2, .ref 2], hp E w)) hM_52 3 rfl ?_
  refine Ev.callR hd hM_52 rfl (y := 53) (as := [.ref 2, .int x2, .int x1]) (rest := []) rfl (Nat.le_of_ble_eq_true rfl) h1 ?_
  refine Ev.run (c' := (24, [.ref 2, .int x1, .int x2], [.int v1], hp E w1)) hM_52 0 rfl ?_
  refine Ev.ifT hM_52 rfl (cI_eqT c3) ?_
  refine Ev.run (c' := (2, [.ref 2, .int x1, .int (x2 + (1 : Int32))], [], hp E w1)) hM_52 2 rfl ?_
  exact e
theorem p52_2_c {E : Nat × (Nat → Int32)} {w : Wd} {d : Nat} {x1 x2 : Int32} {o : Ou} {y2 : Int32} (c1 : x2 < (gF w 1)) (c2 : (x1 &&& ((1 : Int32) <<< (x2 &&& 31))) = 0) (q2 : (x2 + (1 : Int32)) = y2) (e : Ev d 52 (2, [.ref 2, .int x1, .int y2], [], hp E w) o) : Ev d 52 (2, [.ref 2, .int x1, .int x2], [], hp E w) o := by
  subst q2
  refine Ev.run (c' := (7, [.ref 2, .int x1, .int x2], [.int (gF w 1), .int x2], hp E w)) hM_52 3 rfl ?_
  refine Ev.icF hM_52 rfl (cI_geF c1) ?_
  refine Ev.run (c' := (15, [.ref 2, .int x1, .int x2], [.int (x1 &&& ((1 : Int32) <<< (x2 &&& 31)))], hp E w)) hM_52 5 rfl ?_
  refine Ev.ifT hM_52 rfl (cI_eqT c2) ?_
  refine Ev.run (c' := (2, [.ref 2, .int x1, .int (x2 + (1 : Int32))], [], hp E w)) hM_52 2 rfl ?_
  exact e
theorem p52_2_d {E : Nat × (Nat → Int32)} {w : Wd} {d : Nat} {x1 x2 : Int32}  (c1 : ¬ x2 < (gF w 1)) : Ev d 52 (2, [.ref 2, .int x1, .int x2], [], hp E w) (.inl (some (.int (-1 : Int32))), hp E w) := by
  refine Ev.run (c' := (7, [.ref 2, .int x1, .int x2], [.int (gF w 1), .int x2], hp E w)) hM_52 3 rfl ?_
  refine Ev.icT hM_52 rfl (cI_geT c1) ?_
  refine Ev.run (c' := (36, [.ref 2, .int x1, .int x2], [.int (-1 : Int32)], hp E w)) hM_52 1 rfl ?_
  exact Ev.fin hM_52 rfl rfl
theorem hM_53 : mAt 53 = some km_X4_isCorner := rfl
theorem p53_e_a {E : Nat × (Nat → Int32)} {w : Wd} {d : Nat} {x1 x2 : Int32} {o : Ou} {w1 : Wd} {v1 : Int32} {y3 : Int32} (hd : 1 ≤ d) (h1 : Ev (d - 1) 47 (ent0 47 [.ref 2, .int x1] (hp E w)) (.inl (some (.int v1)), hp E w1)) (q3 : (v1 &&& x2) = y3) (e : Ev d 53 (11, [.ref 2, .int x1, .int x2, .int y3, .int (0 : Int32), jk], [], hp E w1) o) : Ev d 53 (ent0 53 [.ref 2, .int x1, .int x2] (hp E w)) o := by
  subst q3
  refine Ev.run (c' := (2, [.ref 2, .int x1, .int x2, jk, jk, jk], [.int x1, .ref 2], hp E w)) hM_53 2 rfl ?_
  refine Ev.callR hd hM_53 rfl (y := 47) (as := [.ref 2, .int x1]) (rest := []) rfl (Nat.le_of_ble_eq_true rfl) h1 ?_
  refine Ev.run (c' := (11, [.ref 2, .int x1, .int x2, .int (v1 &&& x2), .int (0 : Int32), jk], [], hp E w1)) hM_53 5 rfl ?_
  exact e
theorem p53_11_a {E : Nat × (Nat → Int32)} {w : Wd} {d : Nat} {x1 x2 x3 x4 : Int32} {u5 : Value} {w1 : Wd} {v1 : Int32} (hd : 1 ≤ d) (c1 : x4 < (gF w 1)) (c2 : ¬ x4 = x1) (c3 : ¬ (x2 &&& ((1 : Int32) <<< (x4 &&& 31))) = 0) (h1 : Ev (d - 1) 47 (ent0 47 [.ref 2, .int x4] (hp E w)) (.inl (some (.int v1)), hp E w1)) (c4 : (x3 &&& (v1 ^^^ (-1 : Int32))) = 0) : Ev d 53 (11, [.ref 2, .int x1, .int x2, .int x3, .int x4, u5], [], hp E w) (.inl (some (.int (1 : Int32))), hp E w1) := by
  refine Ev.run (c' := (17, [.ref 2, .int x1, .int x2, .int x3, .int x4, u5], [.int (gF w 1), .int x4], hp E w)) hM_53 3 rfl ?_
  refine Ev.icF hM_53 rfl (cI_geF c1) ?_
  refine Ev.run (c' := (23, [.ref 2, .int x1, .int x2, .int x3, .int x4, u5], [.int x1, .int x4], hp E w)) hM_53 2 rfl ?_
  refine Ev.icF hM_53 rfl (cI_eqF c2) ?_
  refine Ev.run (c' := (32, [.ref 2, .int x1, .int x2, .int x3, .int x4, u5], [.int (x2 &&& ((1 : Int32) <<< (x4 &&& 31)))], hp E w)) hM_53 5 rfl ?_
  refine Ev.ifF hM_53 rfl (cI_eqF c3) ?_
  refine Ev.run (c' := (44, [.ref 2, .int x1, .int x2, .int x3, .int x4, .int (1 : Int32)], [.int (1 : Int32)], hp E w)) hM_53 4 rfl ?_
  refine Ev.ifF hM_53 rfl (by decide) ?_
  refine Ev.run (c' := (51, [.ref 2, .int x1, .int x2, .int x3, .int x4, .int (1 : Int32)], [.int x4, .ref 2, .int x3], hp E w)) hM_53 3 rfl ?_
  refine Ev.callR hd hM_53 rfl (y := 47) (as := [.ref 2, .int x4]) (rest := [.int x3]) rfl (Nat.le_of_ble_eq_true rfl) h1 ?_
  refine Ev.run (c' := (57, [.ref 2, .int x1, .int x2, .int x3, .int x4, .int (1 : Int32)], [.int (x3 &&& (v1 ^^^ (-1 : Int32)))], hp E w1)) hM_53 3 rfl ?_
  refine Ev.ifF hM_53 rfl (cI_neF c4) ?_
  refine Ev.run (c' := (61, [.ref 2, .int x1, .int x2, .int x3, .int x4, .int (1 : Int32)], [.int (1 : Int32)], hp E w1)) hM_53 1 rfl ?_
  exact Ev.fin hM_53 rfl rfl
theorem p53_11_b {E : Nat × (Nat → Int32)} {w : Wd} {d : Nat} {x1 x2 x3 x4 : Int32} {u5 : Value} {o : Ou} {w1 : Wd} {v1 : Int32} {y4 : Int32} (hd : 1 ≤ d) (c1 : x4 < (gF w 1)) (c2 : ¬ x4 = x1) (c3 : ¬ (x2 &&& ((1 : Int32) <<< (x4 &&& 31))) = 0) (h1 : Ev (d - 1) 47 (ent0 47 [.ref 2, .int x4] (hp E w)) (.inl (some (.int v1)), hp E w1)) (c4 : ¬ (x3 &&& (v1 ^^^ (-1 : Int32))) = 0) (q4 : (x4 + (1 : Int32)) = y4) (e : Ev d 53 (11, [.ref 2, .int x1, .int x2, .int x3, .int y4, .int (1 : Int32)], [], hp E w1) o) : Ev d 53 (11, [.ref 2, .int x1, .int x2, .int x3, .int x4, u5], [], hp E w) o := by
  subst q4
  refine Ev.run (c' := (17, [.ref 2, .int x1, .int x2, .int x3, .int x4, u5], [.int (gF w 1), .int x4], hp E w)) hM_53 3 rfl ?_
  refine Ev.icF hM_53 rfl (cI_geF c1) ?_
  refine Ev.run (c' := (23, [.ref 2, .int x1, .int x2, .int x3, .int x4, u5], [.int x1, .int x4], hp E w)) hM_53 2 rfl ?_
  refine Ev.icF hM_53 rfl (cI_eqF c2) ?_
  refine Ev.run (c' := (32, [.ref 2, .int x1, .int x2, .int x3, .int x4, u5], [.int (x2 &&& ((1 : Int32) <<< (x4 &&& 31)))], hp E w)) hM_53 5 rfl ?_
  refine Ev.ifF hM_53 rfl (cI_eqF c3) ?_
  refine Ev.run (c' := (44, [.ref 2, .int x1, .int x2, .int x3, .int x4, .int (1 : Int32)], [.int (1 : Int32)], hp E w)) hM_53 4 rfl ?_
  refine Ev.ifF hM_53 rfl (by decide) ?_
  refine Ev.run (c' := (51, [.ref 2, .int x1, .int x2, .int x3, .int x4, .int (1 : Int32)], [.int x4, .ref 2, .int x3], hp E w)) hM_53 3 rfl ?_
  refine Ev.callR hd hM_53 rfl (y := 47) (as := [.ref 2, .int x4]) (rest := [.int x3]) rfl (Nat.le_of_ble_eq_true rfl) h1 ?_
  refine Ev.run (c' := (57, [.ref 2, .int x1, .int x2, .int x3, .int x4, .int (1 : Int32)], [.int (x3 &&& (v1 ^^^ (-1 : Int32)))], hp E w1)) hM_53 3 rfl ?_
  refine Ev.ifT hM_53 rfl (cI_neT c4) ?_
  refine Ev.run (c' := (11, [.ref 2, .int x1, .int x2, .int x3, .int (x4 + (1 : Int32)), .int (1 : Int32)], [], hp E w1)) hM_53 2 rfl ?_
  exact e
theorem p53_11_c {E : Nat × (Nat → Int32)} {w : Wd} {d : Nat} {x1 x2 x3 x4 : Int32} {u5 : Value} {o : Ou} {y4 : Int32} (c1 : x4 < (gF w 1)) (c2 : ¬ x4 = x1) (c3 : (x2 &&& ((1 : Int32) <<< (x4 &&& 31))) = 0) (q4 : (x4 + (1 : Int32)) = y4) (e : Ev d 53 (11, [.ref 2, .int x1, .int x2, .int x3, .int y4, .int (0 : Int32)], [], hp E w) o) : Ev d 53 (11, [.ref 2, .int x1, .int x2, .int x3, .int x4, u5], [], hp E w) o := by
  subst q4
  refine Ev.run (c' := (17, [.ref 2, .int x1, .int x2, .int x3, .int x4, u5], [.int (gF w 1), .int x4], hp E w)) hM_53 3 rfl ?_
  refine Ev.icF hM_53 rfl (cI_geF c1) ?_
  refine Ev.run (c' := (23, [.ref 2, .int x1, .int x2, .int x3, .int x4, u5], [.int x1, .int x4], hp E w)) hM_53 2 rfl ?_
  refine Ev.icF hM_53 rfl (cI_eqF c2) ?_
  refine Ev.run (c' := (32, [.ref 2, .int x1, .int x2, .int x3, .int x4, u5], [.int (x2 &&& ((1 : Int32) <<< (x4 &&& 31)))], hp E w)) hM_53 5 rfl ?_
  refine Ev.ifT hM_53 rfl (cI_eqT c3) ?_
  refine Ev.run (c' := (44, [.ref 2, .int x1, .int x2, .int x3, .int x4, .int (0 : Int32)], [.int (0 : Int32)], hp E w)) hM_53 3 rfl ?_
  refine Ev.ifT hM_53 rfl (by decide) ?_
  refine Ev.run (c' := (11, [.ref 2, .int x1, .int x2, .int x3, .int (x4 + (1 : Int32)), .int (0 : Int32)], [], hp E w)) hM_53 2 rfl ?_
  exact e
theorem p53_11_d {E : Nat × (Nat → Int32)} {w : Wd} {d : Nat} {x1 x2 x3 x4 : Int32} {u5 : Value} {o : Ou} {y4 : Int32} (c1 : x4 < (gF w 1)) (c2 : x4 = x1) (q4 : (x4 + (1 : Int32)) = y4) (e : Ev d 53 (11, [.ref 2, .int x1, .int x2, .int x3, .int y4, .int (0 : Int32)], [], hp E w) o) : Ev d 53 (11, [.ref 2, .int x1, .int x2, .int x3, .int x4, u5], [], hp E w) o := by
  subst q4
  refine Ev.run (c' := (17, [.ref 2, .int x1, .int x2, .int x3, .int x4, u5], [.int (gF w 1), .int x4], hp E w)) hM_53 3 rfl ?_
  refine Ev.icF hM_53 rfl (cI_geF c1) ?_
  refine Ev.run (c' := (23, [.ref 2, .int x1, .int x2, .int x3, .int x4, u5], [.int x1, .int x4], hp E w)) hM_53 2 rfl ?_
  refine Ev.icT hM_53 rfl (cI_eqT c2) ?_
  refine Ev.run (c' := (44, [.ref 2, .int x1, .int x2, .int x3, .int x4, .int (0 : Int32)], [.int (0 : Int32)], hp E w)) hM_53 3 rfl ?_
  refine Ev.ifT hM_53 rfl (by decide) ?_
  refine Ev.run (c' := (11, [.ref 2, .int x1, .int x2, .int x3, .int (x4 + (1 : Int32)), .int (0 : Int32)], [], hp E w)) hM_53 2 rfl ?_
  exact e
theorem p53_11_e {E : Nat × (Nat → Int32)} {w : Wd} {d : Nat} {x1 x2 x3 x4 : Int32} {u5 : Value}  (c1 : ¬ x4 < (gF w 1)) : Ev d 53 (11, [.ref 2, .int x1, .int x2, .int x3, .int x4, u5], [], hp E w) (.inl (some (.int (0 : Int32))), hp E w) := by
  refine Ev.run (c' := (17, [.ref 2, .int x1, .int x2, .int x3, .int x4, u5], [.int (gF w 1), .int x4], hp E w)) hM_53 3 rfl ?_
  refine Ev.icT hM_53 rfl (cI_geT c1) ?_
  refine Ev.run (c' := (69, [.ref 2, .int x1, .int x2, .int x3, .int x4, u5], [.int (0 : Int32)], hp E w)) hM_53 1 rfl ?_
  exact Ev.fin hM_53 rfl rfl
end
