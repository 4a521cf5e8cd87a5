/-! THE CONSTRUCTORS: from the law's beginning to its loop. -/
section
variable {d : Nat} {Ls : Nat} {xs : Nat → Int32}
theorem hN_83 : mAt 83 = some km_L_law := rfl
def hz0 (Ls : Nat) (xs : Nat → Int32) : AH := (0, [.inl (Ls, .inl xs)])
def hz1 (Ls : Nat) (xs : Nat → Int32) : AH := (0, [.inl (Ls, .inl xs), .inr (6, [.null, .null, .null, .null, .null, .int (0 : Int32)])])
theorem hN_58 : mAt 58 = some km_X7_init := rfl
def hz2 (Ls : Nat) (xs : Nat → Int32) : AH := (0, [.inl (Ls, .inl xs), .inr (6, [.null, .null, .null, .null, .null, .int (0 : Int32)]), .inr (4, [.null, .int (0 : Int32), .int (0 : Int32)])])
theorem hN_37 : mAt 37 = some km_X4_init := rfl
def hz3 (Ls : Nat) (xs : Nat → Int32) : AH := (0, [.inl (Ls, .inl xs), .inr (6, [.null, .null, .null, .null, .null, .int (0 : Int32)]), .inr (4, [.null, .int (0 : Int32), .int (0 : Int32)]), .inr (5, [.null])])
theorem hN_54 : mAt 54 = some km_X6_init := rfl
def hz4 (Ls : Nat) (xs : Nat → Int32) : AH := (0, [.inl (Ls, .inl xs), .inr (6, [.null, .null, .null, .null, .null, .int (0 : Int32)]), .inr (4, [.null, .int (0 : Int32), .int (0 : Int32)]), .inr (5, [.ref 4]), .inl (9, .inl fun _ => 0)])
theorem ini_0 (hd : 0 ≤ d) : Ev d 54 (ent0 54 [.ref 3, .int (9 : Int32)] (hz3 Ls xs)) (.inl none, (hz4 Ls xs)) := by
  refine Ev.run (c' := (6, [.ref 3, .int (9 : Int32)], [.int (9 : Int32), .ref 3], (hz3 Ls xs))) hN_54 4 rfl ?_
  refine Ev.run (c' := (19, [.ref 3, .int (9 : Int32)], [], (hz4 Ls xs))) hN_54 4 rfl ?_
  exact Ev.fin hN_54 rfl rfl
def hz5 (Ls : Nat) (xs : Nat → Int32) : AH := (0, [.inl (Ls, .inl xs), .inr (6, [.null, .null, .null, .null, .null, .int (0 : Int32)]), .inr (4, [.ref 3, .int (1 : Int32), .int (0 : Int32)]), .inr (5, [.ref 4]), .inl (9, .inl fun _ => 0)])
theorem ini_1 (hd : 1 ≤ d) : Ev d 37 (ent0 37 [.ref 2] (hz2 Ls xs)) (.inl none, (hz5 Ls xs)) := by
  refine Ev.run (c' := (8, [.ref 2], [.ref 3, .ref 2], (hz3 Ls xs))) hN_37 4 rfl ?_
  refine Ev.run (c' := (11, [.ref 2], [.int (9 : Int32), .ref 3, .ref 3, .ref 2], (hz3 Ls xs))) hN_37 2 rfl ?_
  refine Ev.callR (by omega) hN_37 rfl (y := 54) (as := [.ref 3, .int (9 : Int32)]) (rest := [.ref 3, .ref 2]) rfl (by decide) (ini_0 (by omega)) ?_
  refine Ev.run (c' := (22, [.ref 2], [], (hz5 Ls xs))) hN_37 4 rfl ?_
  refine Ev.run (c' := (27, [.ref 2], [], (hz5 Ls xs))) hN_37 3 rfl ?_
  exact Ev.fin hN_37 rfl rfl
def hz6 (Ls : Nat) (xs : Nat → Int32) : AH := (0, [.inl (Ls, .inl xs), .inr (6, [.ref 2, .null, .null, .null, .null, .int (0 : Int32)]), .inr (4, [.ref 3, .int (1 : Int32), .int (0 : Int32)]), .inr (5, [.ref 4]), .inl (9, .inl fun _ => 0), .inr (3, [.null, .null, .null, .int (0 : Int32)])])
theorem hN_29 : mAt 29 = some km_X3_init := rfl
def hz7 (Ls : Nat) (xs : Nat → Int32) : AH := (0, [.inl (Ls, .inl xs), .inr (6, [.ref 2, .null, .null, .null, .null, .int (0 : Int32)]), .inr (4, [.ref 3, .int (1 : Int32), .int (0 : Int32)]), .inr (5, [.ref 4]), .inl (9, .inl fun _ => 0), .inr (3, [.null, .null, .null, .int (0 : Int32)]), .inr (5, [.null])])
def hz8 (Ls : Nat) (xs : Nat → Int32) : AH := (0, [.inl (Ls, .inl xs), .inr (6, [.ref 2, .null, .null, .null, .null, .int (0 : Int32)]), .inr (4, [.ref 3, .int (1 : Int32), .int (0 : Int32)]), .inr (5, [.ref 4]), .inl (9, .inl fun _ => 0), .inr (3, [.null, .null, .null, .int (0 : Int32)]), .inr (5, [.ref 7]), .inl (200, .inl fun _ => 0)])
theorem ini_2 (hd : 0 ≤ d) : Ev d 54 (ent0 54 [.ref 6, .int (200 : Int32)] (hz7 Ls xs)) (.inl none, (hz8 Ls xs)) := by
  refine Ev.run (c' := (6, [.ref 6, .int (200 : Int32)], [.int (200 : Int32), .ref 6], (hz7 Ls xs))) hN_54 4 rfl ?_
  refine Ev.run (c' := (19, [.ref 6, .int (200 : Int32)], [], (hz8 Ls xs))) hN_54 4 rfl ?_
  exact Ev.fin hN_54 rfl rfl
def hz9 (Ls : Nat) (xs : Nat → Int32) : AH := (0, [.inl (Ls, .inl xs), .inr (6, [.ref 2, .null, .null, .null, .null, .int (0 : Int32)]), .inr (4, [.ref 3, .int (1 : Int32), .int (0 : Int32)]), .inr (5, [.ref 4]), .inl (9, .inl fun _ => 0), .inr (3, [.ref 6, .null, .null, .int (0 : Int32)]), .inr (5, [.ref 7]), .inl (200, .inl fun _ => 0), .inr (5, [.null])])
def hz10 (Ls : Nat) (xs : Nat → Int32) : AH := (0, [.inl (Ls, .inl xs), .inr (6, [.ref 2, .null, .null, .null, .null, .int (0 : Int32)]), .inr (4, [.ref 3, .int (1 : Int32), .int (0 : Int32)]), .inr (5, [.ref 4]), .inl (9, .inl fun _ => 0), .inr (3, [.ref 6, .null, .null, .int (0 : Int32)]), .inr (5, [.ref 7]), .inl (200, .inl fun _ => 0), .inr (5, [.ref 9]), .inl (200, .inl fun _ => 0)])
theorem ini_3 (hd : 0 ≤ d) : Ev d 54 (ent0 54 [.ref 8, .int (200 : Int32)] (hz9 Ls xs)) (.inl none, (hz10 Ls xs)) := by
  refine Ev.run (c' := (6, [.ref 8, .int (200 : Int32)], [.int (200 : Int32), .ref 8], (hz9 Ls xs))) hN_54 4 rfl ?_
  refine Ev.run (c' := (19, [.ref 8, .int (200 : Int32)], [], (hz10 Ls xs))) hN_54 4 rfl ?_
  exact Ev.fin hN_54 rfl rfl
def hz11 (Ls : Nat) (xs : Nat → Int32) : AH := (0, [.inl (Ls, .inl xs), .inr (6, [.ref 2, .null, .null, .null, .null, .int (0 : Int32)]), .inr (4, [.ref 3, .int (1 : Int32), .int (0 : Int32)]), .inr (5, [.ref 4]), .inl (9, .inl fun _ => 0), .inr (3, [.ref 6, .ref 8, .null, .int (0 : Int32)]), .inr (5, [.ref 7]), .inl (200, .inl fun _ => 0), .inr (5, [.ref 9]), .inl (200, .inl fun _ => 0), .inr (5, [.null])])
def hz12 (Ls : Nat) (xs : Nat → Int32) : AH := (0, [.inl (Ls, .inl xs), .inr (6, [.ref 2, .null, .null, .null, .null, .int (0 : Int32)]), .inr (4, [.ref 3, .int (1 : Int32), .int (0 : Int32)]), .inr (5, [.ref 4]), .inl (9, .inl fun _ => 0), .inr (3, [.ref 6, .ref 8, .null, .int (0 : Int32)]), .inr (5, [.ref 7]), .inl (200, .inl fun _ => 0), .inr (5, [.ref 9]), .inl (200, .inl fun _ => 0), .inr (5, [.ref 11]), .inl (200, .inl fun _ => 0)])
theorem ini_4 (hd : 0 ≤ d) : Ev d 54 (ent0 54 [.ref 10, .int (200 : Int32)] (hz11 Ls xs)) (.inl none, (hz12 Ls xs)) := by
  refine Ev.run (c' := (6, [.ref 10, .int (200 : Int32)], [.int (200 : Int32), .ref 10], (hz11 Ls xs))) hN_54 4 rfl ?_
  refine Ev.run (c' := (19, [.ref 10, .int (200 : Int32)], [], (hz12 Ls xs))) hN_54 4 rfl ?_
  exact Ev.fin hN_54 rfl rfl
def hz13 (Ls : Nat) (xs : Nat → Int32) : AH := (0, [.inl (Ls, .inl xs), .inr (6, [.ref 2, .null, .null, .null, .null, .int (0 : Int32)]), .inr (4, [.ref 3, .int (1 : Int32), .int (0 : Int32)]), .inr (5, [.ref 4]), .inl (9, .inl fun _ => 0), .inr (3, [.ref 6, .ref 8, .ref 10, .int (0 : Int32)]), .inr (5, [.ref 7]), .inl (200, .inl fun _ => 0), .inr (5, [.ref 9]), .inl (200, .inl fun _ => 0), .inr (5, [.ref 11]), .inl (200, .inl fun _ => 0)])
theorem ini_5 (hd : 1 ≤ d) : Ev d 29 (ent0 29 [.ref 5] (hz6 Ls xs)) (.inl none, (hz13 Ls xs)) := by
  refine Ev.run (c' := (8, [.ref 5], [.ref 6, .ref 5], (hz7 Ls xs))) hN_29 4 rfl ?_
  refine Ev.run (c' := (12, [.ref 5], [.int (200 : Int32), .ref 6, .ref 6, .ref 5], (hz7 Ls xs))) hN_29 2 rfl ?_
  refine Ev.callR (by omega) hN_29 rfl (y := 54) (as := [.ref 6, .int (200 : Int32)]) (rest := [.ref 6, .ref 5]) rfl (by decide) (ini_2 (by omega)) ?_
  refine Ev.run (c' := (23, [.ref 5], [.ref 8, .ref 8, .ref 5], (hz9 Ls xs))) hN_29 4 rfl ?_
  refine Ev.run (c' := (26, [.ref 5], [.int (200 : Int32), .ref 8, .ref 8, .ref 5], (hz9 Ls xs))) hN_29 1 rfl ?_
  refine Ev.callR (by omega) hN_29 rfl (y := 54) (as := [.ref 8, .int (200 : Int32)]) (rest := [.ref 8, .ref 5]) rfl (by decide) (ini_3 (by omega)) ?_
  refine Ev.run (c' := (37, [.ref 5], [.ref 10, .ref 10, .ref 5], (hz11 Ls xs))) hN_29 4 rfl ?_
  refine Ev.run (c' := (40, [.ref 5], [.int (200 : Int32), .ref 10, .ref 10, .ref 5], (hz11 Ls xs))) hN_29 1 rfl ?_
  refine Ev.callR (by omega) hN_29 rfl (y := 54) (as := [.ref 10, .int (200 : Int32)]) (rest := [.ref 10, .ref 5]) rfl (by decide) (ini_4 (by omega)) ?_
  refine Ev.run (c' := (51, [.ref 5], [], (hz13 Ls xs))) hN_29 4 rfl ?_
  exact Ev.fin hN_29 rfl rfl
def hz14 (Ls : Nat) (xs : Nat → Int32) : AH := (0, [.inl (Ls, .inl xs), .inr (6, [.ref 2, .ref 5, .null, .null, .null, .int (0 : Int32)]), .inr (4, [.ref 3, .int (1 : Int32), .int (0 : Int32)]), .inr (5, [.ref 4]), .inl (9, .inl fun _ => 0), .inr (3, [.ref 6, .ref 8, .ref 10, .int (0 : Int32)]), .inr (5, [.ref 7]), .inl (200, .inl fun _ => 0), .inr (5, [.ref 9]), .inl (200, .inl fun _ => 0), .inr (5, [.ref 11]), .inl (200, .inl fun _ => 0), .inr (1, [.null, .null, .null, .null, .int (0 : Int32)])])
theorem hN_6 : mAt 6 = some km_X1_init := rfl
def hz15 (Ls : Nat) (xs : Nat → Int32) : AH := (0, [.inl (Ls, .inl xs), .inr (6, [.ref 2, .ref 5, .null, .null, .null, .int (0 : Int32)]), .inr (4, [.ref 3, .int (1 : Int32), .int (0 : Int32)]), .inr (5, [.ref 4]), .inl (9, .inl fun _ => 0), .inr (3, [.ref 6, .ref 8, .ref 10, .int (0 : Int32)]), .inr (5, [.ref 7]), .inl (200, .inl fun _ => 0), .inr (5, [.ref 9]), .inl (200, .inl fun _ => 0), .inr (5, [.ref 11]), .inl (200, .inl fun _ => 0), .inr (1, [.null, .null, .null, .null, .int (0 : Int32)]), .inr (5, [.null])])
def hz16 (Ls : Nat) (xs : Nat → Int32) : AH := (0, [.inl (Ls, .inl xs), .inr (6, [.ref 2, .ref 5, .null, .null, .null, .int (0 : Int32)]), .inr (4, [.ref 3, .int (1 : Int32), .int (0 : Int32)]), .inr (5, [.ref 4]), .inl (9, .inl fun _ => 0), .inr (3, [.ref 6, .ref 8, .ref 10, .int (0 : Int32)]), .inr (5, [.ref 7]), .inl (200, .inl fun _ => 0), .inr (5, [.ref 9]), .inl (200, .inl fun _ => 0), .inr (5, [.ref 11]), .inl (200, .inl fun _ => 0), .inr (1, [.null, .null, .null, .null, .int (0 : Int32)]), .inr (5, [.ref 14]), .inl (810, .inl fun _ => 0)])
theorem ini_6 (hd : 0 ≤ d) : Ev d 54 (ent0 54 [.ref 13, .int (810 : Int32)] (hz15 Ls xs)) (.inl none, (hz16 Ls xs)) := by
  refine Ev.run (c' := (6, [.ref 13, .int (810 : Int32)], [.int (810 : Int32), .ref 13], (hz15 Ls xs))) hN_54 4 rfl ?_
  refine Ev.run (c' := (19, [.ref 13, .int (810 : Int32)], [], (hz16 Ls xs))) hN_54 4 rfl ?_
  exact Ev.fin hN_54 rfl rfl
def hz17 (Ls : Nat) (xs : Nat → Int32) : AH := (0, [.inl (Ls, .inl xs), .inr (6, [.ref 2, .ref 5, .null, .null, .null, .int (0 : Int32)]), .inr (4, [.ref 3, .int (1 : Int32), .int (0 : Int32)]), .inr (5, [.ref 4]), .inl (9, .inl fun _ => 0), .inr (3, [.ref 6, .ref 8, .ref 10, .int (0 : Int32)]), .inr (5, [.ref 7]), .inl (200, .inl fun _ => 0), .inr (5, [.ref 9]), .inl (200, .inl fun _ => 0), .inr (5, [.ref 11]), .inl (200, .inl fun _ => 0), .inr (1, [.ref 13, .null, .null, .null, .int (0 : Int32)]), .inr (5, [.ref 14]), .inl (810, .inl fun _ => 0), .inr (5, [.null])])
def hz18 (Ls : Nat) (xs : Nat → Int32) : AH := (0, [.inl (Ls, .inl xs), .inr (6, [.ref 2, .ref 5, .null, .null, .null, .int (0 : Int32)]), .inr (4, [.ref 3, .int (1 : Int32), .int (0 : Int32)]), .inr (5, [.ref 4]), .inl (9, .inl fun _ => 0), .inr (3, [.ref 6, .ref 8, .ref 10, .int (0 : Int32)]), .inr (5, [.ref 7]), .inl (200, .inl fun _ => 0), .inr (5, [.ref 9]), .inl (200, .inl fun _ => 0), .inr (5, [.ref 11]), .inl (200, .inl fun _ => 0), .inr (1, [.ref 13, .null, .null, .null, .int (0 : Int32)]), .inr (5, [.ref 14]), .inl (810, .inl fun _ => 0), .inr (5, [.ref 16]), .inl (90, .inl fun _ => 0)])
theorem ini_7 (hd : 0 ≤ d) : Ev d 54 (ent0 54 [.ref 15, .int (90 : Int32)] (hz17 Ls xs)) (.inl none, (hz18 Ls xs)) := by
  refine Ev.run (c' := (6, [.ref 15, .int (90 : Int32)], [.int (90 : Int32), .ref 15], (hz17 Ls xs))) hN_54 4 rfl ?_
  refine Ev.run (c' := (19, [.ref 15, .int (90 : Int32)], [], (hz18 Ls xs))) hN_54 4 rfl ?_
  exact Ev.fin hN_54 rfl rfl
def hz19 (Ls : Nat) (xs : Nat → Int32) : AH := (0, [.inl (Ls, .inl xs), .inr (6, [.ref 2, .ref 5, .null, .null, .null, .int (0 : Int32)]), .inr (4, [.ref 3, .int (1 : Int32), .int (0 : Int32)]), .inr (5, [.ref 4]), .inl (9, .inl fun _ => 0), .inr (3, [.ref 6, .ref 8, .ref 10, .int (0 : Int32)]), .inr (5, [.ref 7]), .inl (200, .inl fun _ => 0), .inr (5, [.ref 9]), .inl (200, .inl fun _ => 0), .inr (5, [.ref 11]), .inl (200, .inl fun _ => 0), .inr (1, [.ref 13, .ref 15, .null, .null, .int (0 : Int32)]), .inr (5, [.ref 14]), .inl (810, .inl fun _ => 0), .inr (5, [.ref 16]), .inl (90, .inl fun _ => 0), .inr (5, [.null])])
def hz20 (Ls : Nat) (xs : Nat → Int32) : AH := (0, [.inl (Ls, .inl xs), .inr (6, [.ref 2, .ref 5, .null, .null, .null, .int (0 : Int32)]), .inr (4, [.ref 3, .int (1 : Int32), .int (0 : Int32)]), .inr (5, [.ref 4]), .inl (9, .inl fun _ => 0), .inr (3, [.ref 6, .ref 8, .ref 10, .int (0 : Int32)]), .inr (5, [.ref 7]), .inl (200, .inl fun _ => 0), .inr (5, [.ref 9]), .inl (200, .inl fun _ => 0), .inr (5, [.ref 11]), .inl (200, .inl fun _ => 0), .inr (1, [.ref 13, .ref 15, .null, .null, .int (0 : Int32)]), .inr (5, [.ref 14]), .inl (810, .inl fun _ => 0), .inr (5, [.ref 16]), .inl (90, .inl fun _ => 0), .inr (5, [.ref 18]), .inl (90, .inl fun _ => 0)])
theorem ini_8 (hd : 0 ≤ d) : Ev d 54 (ent0 54 [.ref 17, .int (90 : Int32)] (hz19 Ls xs)) (.inl none, (hz20 Ls xs)) := by
  refine Ev.run (c' := (6, [.ref 17, .int (90 : Int32)], [.int (90 : Int32), .ref 17], (hz19 Ls xs))) hN_54 4 rfl ?_
  refine Ev.run (c' := (19, [.ref 17, .int (90 : Int32)], [], (hz20 Ls xs))) hN_54 4 rfl ?_
  exact Ev.fin hN_54 rfl rfl
def hz21 (Ls : Nat) (xs : Nat → Int32) : AH := (0, [.inl (Ls, .inl xs), .inr (6, [.ref 2, .ref 5, .null, .null, .null, .int (0 : Int32)]), .inr (4, [.ref 3, .int (1 : Int32), .int (0 : Int32)]), .inr (5, [.ref 4]), .inl (9, .inl fun _ => 0), .inr (3, [.ref 6, .ref 8, .ref 10, .int (0 : Int32)]), .inr (5, [.ref 7]), .inl (200, .inl fun _ => 0), .inr (5, [.ref 9]), .inl (200, .inl fun _ => 0), .inr (5, [.ref 11]), .inl (200, .inl fun _ => 0), .inr (1, [.ref 13, .ref 15, .ref 17, .null, .int (0 : Int32)]), .inr (5, [.ref 14]), .inl (810, .inl fun _ => 0), .inr (5, [.ref 16]), .inl (90, .inl fun _ => 0), .inr (5, [.ref 18]), .inl (90, .inl fun _ => 0), .inr (5, [.null])])
def hz22 (Ls : Nat) (xs : Nat → Int32) : AH := (0, [.inl (Ls, .inl xs), .inr (6, [.ref 2, .ref 5, .null, .null, .null, .int (0 : Int32)]), .inr (4, [.ref 3, .int (1 : Int32), .int (0 : Int32)]), .inr (5, [.ref 4]), .inl (9, .inl fun _ => 0), .inr (3, [.ref 6, .ref 8, .ref 10, .int (0 : Int32)]), .inr (5, [.ref 7]), .inl (200, .inl fun _ => 0), .inr (5, [.ref 9]), .inl (200, .inl fun _ => 0), .inr (5, [.ref 11]), .inl (200, .inl fun _ => 0), .inr (1, [.ref 13, .ref 15, .ref 17, .null, .int (0 : Int32)]), .inr (5, [.ref 14]), .inl (810, .inl fun _ => 0), .inr (5, [.ref 16]), .inl (90, .inl fun _ => 0), .inr (5, [.ref 18]), .inl (90, .inl fun _ => 0), .inr (5, [.ref 20]), .inl (90, .inl fun _ => 0)])
theorem ini_9 (hd : 0 ≤ d) : Ev d 54 (ent0 54 [.ref 19, .int (90 : Int32)] (hz21 Ls xs)) (.inl none, (hz22 Ls xs)) := by
  refine Ev.run (c' := (6, [.ref 19, .int (90 : Int32)], [.int (90 : Int32), .ref 19], (hz21 Ls xs))) hN_54 4 rfl ?_
  refine Ev.run (c' := (19, [.ref 19, .int (90 : Int32)], [], (hz22 Ls xs))) hN_54 4 rfl ?_
  exact Ev.fin hN_54 rfl rfl
def hz23 (Ls : Nat) (xs : Nat → Int32) : AH := (0, [.inl (Ls, .inl xs), .inr (6, [.ref 2, .ref 5, .null, .null, .null, .int (0 : Int32)]), .inr (4, [.ref 3, .int (1 : Int32), .int (0 : Int32)]), .inr (5, [.ref 4]), .inl (9, .inl fun _ => 0), .inr (3, [.ref 6, .ref 8, .ref 10, .int (0 : Int32)]), .inr (5, [.ref 7]), .inl (200, .inl fun _ => 0), .inr (5, [.ref 9]), .inl (200, .inl fun _ => 0), .inr (5, [.ref 11]), .inl (200, .inl fun _ => 0), .inr (1, [.ref 13, .ref 15, .ref 17, .ref 19, .int (-1 : Int32)]), .inr (5, [.ref 14]), .inl (810, .inl fun _ => 0), .inr (5, [.ref 16]), .inl (90, .inl fun _ => 0), .inr (5, [.ref 18]), .inl (90, .inl fun _ => 0), .inr (5, [.ref 20]), .inl (90, .inl fun _ => 0)])
theorem ini_10 (hd : 1 ≤ d) : Ev d 6 (ent0 6 [.ref 12] (hz14 Ls xs)) (.inl none, (hz23 Ls xs)) := by
  refine Ev.run (c' := (8, [.ref 12], [.ref 13, .ref 12], (hz15 Ls xs))) hN_6 4 rfl ?_
  refine Ev.run (c' := (12, [.ref 12], [.int (810 : Int32), .ref 13, .ref 13, .ref 12], (hz15 Ls xs))) hN_6 2 rfl ?_
  refine Ev.callR (by omega) hN_6 rfl (y := 54) (as := [.ref 13, .int (810 : Int32)]) (rest := [.ref 13, .ref 12]) rfl (by decide) (ini_6 (by omega)) ?_
  refine Ev.run (c' := (23, [.ref 12], [.ref 15, .ref 15, .ref 12], (hz17 Ls xs))) hN_6 4 rfl ?_
  refine Ev.run (c' := (25, [.ref 12], [.int (90 : Int32), .ref 15, .ref 15, .ref 12], (hz17 Ls xs))) hN_6 1 rfl ?_
  refine Ev.callR (by omega) hN_6 rfl (y := 54) (as := [.ref 15, .int (90 : Int32)]) (rest := [.ref 15, .ref 12]) rfl (by decide) (ini_7 (by omega)) ?_
  refine Ev.run (c' := (36, [.ref 12], [.ref 17, .ref 17, .ref 12], (hz19 Ls xs))) hN_6 4 rfl ?_
  refine Ev.run (c' := (38, [.ref 12], [.int (90 : Int32), .ref 17, .ref 17, .ref 12], (hz19 Ls xs))) hN_6 1 rfl ?_
  refine Ev.callR (by omega) hN_6 rfl (y := 54) (as := [.ref 17, .int (90 : Int32)]) (rest := [.ref 17, .ref 12]) rfl (by decide) (ini_8 (by omega)) ?_
  refine Ev.run (c' := (49, [.ref 12], [.ref 19, .ref 19, .ref 12], (hz21 Ls xs))) hN_6 4 rfl ?_
  refine Ev.run (c' := (51, [.ref 12], [.int (90 : Int32), .ref 19, .ref 19, .ref 12], (hz21 Ls xs))) hN_6 1 rfl ?_
  refine Ev.callR (by omega) hN_6 rfl (y := 54) (as := [.ref 19, .int (90 : Int32)]) (rest := [.ref 19, .ref 12]) rfl (by decide) (ini_9 (by omega)) ?_
  refine Ev.run (c' := (62, [.ref 12], [], (hz23 Ls xs))) hN_6 4 rfl ?_
  exact Ev.fin hN_6 rfl rfl
def hz24 (Ls : Nat) (xs : Nat → Int32) : AH := (0, [.inl (Ls, .inl xs), .inr (6, [.ref 2, .ref 5, .ref 12, .null, .null, .int (0 : Int32)]), .inr (4, [.ref 3, .int (1 : Int32), .int (0 : Int32)]), .inr (5, [.ref 4]), .inl (9, .inl fun _ => 0), .inr (3, [.ref 6, .ref 8, .ref 10, .int (0 : Int32)]), .inr (5, [.ref 7]), .inl (200, .inl fun _ => 0), .inr (5, [.ref 9]), .inl (200, .inl fun _ => 0), .inr (5, [.ref 11]), .inl (200, .inl fun _ => 0), .inr (1, [.ref 13, .ref 15, .ref 17, .ref 19, .int (-1 : Int32)]), .inr (5, [.ref 14]), .inl (810, .inl fun _ => 0), .inr (5, [.ref 16]), .inl (90, .inl fun _ => 0), .inr (5, [.ref 18]), .inl (90, .inl fun _ => 0), .inr (5, [.ref 20]), .inl (90, .inl fun _ => 0), .inr (0, [.null, .null, .int (0 : Int32)])])
theorem hN_0 : mAt 0 = some km_X0_init := rfl
def hz25 (Ls : Nat) (xs : Nat → Int32) : AH := (0, [.inl (Ls, .inl xs), .inr (6, [.ref 2, .ref 5, .ref 12, .null, .null, .int (0 : Int32)]), .inr (4, [.ref 3, .int (1 : Int32), .int (0 : Int32)]), .inr (5, [.ref 4]), .inl (9, .inl fun _ => 0), .inr (3, [.ref 6, .ref 8, .ref 10, .int (0 : Int32)]), .inr (5, [.ref 7]), .inl (200, .inl fun _ => 0), .inr (5, [.ref 9]), .inl (200, .inl fun _ => 0), .inr (5, [.ref 11]), .inl (200, .inl fun _ => 0), .inr (1, [.ref 13, .ref 15, .ref 17, .ref 19, .int (-1 : Int32)]), .inr (5, [.ref 14]), .inl (810, .inl fun _ => 0), .inr (5, [.ref 16]), .inl (90, .inl fun _ => 0), .inr (5, [.ref 18]), .inl (90, .inl fun _ => 0), .inr (5, [.ref 20]), .inl (90, .inl fun _ => 0), .inr (0, [.null, .null, .int (0 : Int32)]), .inr (5, [.null])])
def hz26 (Ls : Nat) (xs : Nat → Int32) : AH := (0, [.inl (Ls, .inl xs), .inr (6, [.ref 2, .ref 5, .ref 12, .null, .null, .int (0 : Int32)]), .inr (4, [.ref 3, .int (1 : Int32), .int (0 : Int32)]), .inr (5, [.ref 4]), .inl (9, .inl fun _ => 0), .inr (3, [.ref 6, .ref 8, .ref 10, .int (0 : Int32)]), .inr (5, [.ref 7]), .inl (200, .inl fun _ => 0), .inr (5, [.ref 9]), .inl (200, .inl fun _ => 0), .inr (5, [.ref 11]), .inl (200, .inl fun _ => 0), .inr (1, [.ref 13, .ref 15, .ref 17, .ref 19, .int (-1 : Int32)]), .inr (5, [.ref 14]), .inl (810, .inl fun _ => 0), .inr (5, [.ref 16]), .inl (90, .inl fun _ => 0), .inr (5, [.ref 18]), .inl (90, .inl fun _ => 0), .inr (5, [.ref 20]), .inl (90, .inl fun _ => 0), .inr (0, [.null, .null, .int (0 : Int32)]), .inr (5, [.ref 23]), .inl (512, .inl fun _ => 0)])
theorem ini_11 (hd : 0 ≤ d) : Ev d 54 (ent0 54 [.ref 22, .int (512 : Int32)] (hz25 Ls xs)) (.inl none, (hz26 Ls xs)) := by
  refine Ev.run (c' := (6, [.ref 22, .int (512 : Int32)], [.int (512 : Int32), .ref 22], (hz25 Ls xs))) hN_54 4 rfl ?_
  refine Ev.run (c' := (19, [.ref 22, .int (512 : Int32)], [], (hz26 Ls xs))) hN_54 4 rfl ?_
  exact Ev.fin hN_54 rfl rfl
def hz27 (Ls : Nat) (xs : Nat → Int32) : AH := (0, [.inl (Ls, .inl xs), .inr (6, [.ref 2, .ref 5, .ref 12, .null, .null, .int (0 : Int32)]), .inr (4, [.ref 3, .int (1 : Int32), .int (0 : Int32)]), .inr (5, [.ref 4]), .inl (9, .inl fun _ => 0), .inr (3, [.ref 6, .ref 8, .ref 10, .int (0 : Int32)]), .inr (5, [.ref 7]), .inl (200, .inl fun _ => 0), .inr (5, [.ref 9]), .inl (200, .inl fun _ => 0), .inr (5, [.ref 11]), .inl (200, .inl fun _ => 0), .inr (1, [.ref 13, .ref 15, .ref 17, .ref 19, .int (-1 : Int32)]), .inr (5, [.ref 14]), .inl (810, .inl fun _ => 0), .inr (5, [.ref 16]), .inl (90, .inl fun _ => 0), .inr (5, [.ref 18]), .inl (90, .inl fun _ => 0), .inr (5, [.ref 20]), .inl (90, .inl fun _ => 0), .inr (0, [.ref 22, .null, .int (0 : Int32)]), .inr (5, [.ref 23]), .inl (512, .inl fun _ => 0), .inr (5, [.null])])
def hz28 (Ls : Nat) (xs : Nat → Int32) : AH := (0, [.inl (Ls, .inl xs), .inr (6, [.ref 2, .ref 5, .ref 12, .null, .null, .int (0 : Int32)]), .inr (4, [.ref 3, .int (1 : Int32), .int (0 : Int32)]), .inr (5, [.ref 4]), .inl (9, .inl fun _ => 0), .inr (3, [.ref 6, .ref 8, .ref 10, .int (0 : Int32)]), .inr (5, [.ref 7]), .inl (200, .inl fun _ => 0), .inr (5, [.ref 9]), .inl (200, .inl fun _ => 0), .inr (5, [.ref 11]), .inl (200, .inl fun _ => 0), .inr (1, [.ref 13, .ref 15, .ref 17, .ref 19, .int (-1 : Int32)]), .inr (5, [.ref 14]), .inl (810, .inl fun _ => 0), .inr (5, [.ref 16]), .inl (90, .inl fun _ => 0), .inr (5, [.ref 18]), .inl (90, .inl fun _ => 0), .inr (5, [.ref 20]), .inl (90, .inl fun _ => 0), .inr (0, [.ref 22, .null, .int (0 : Int32)]), .inr (5, [.ref 23]), .inl (512, .inl fun _ => 0), .inr (5, [.ref 25]), .inl (512, .inl fun _ => 0)])
theorem ini_12 (hd : 0 ≤ d) : Ev d 54 (ent0 54 [.ref 24, .int (512 : Int32)] (hz27 Ls xs)) (.inl none, (hz28 Ls xs)) := by
  refine Ev.run (c' := (6, [.ref 24, .int (512 : Int32)], [.int (512 : Int32), .ref 24], (hz27 Ls xs))) hN_54 4 rfl ?_
  refine Ev.run (c' := (19, [.ref 24, .int (512 : Int32)], [], (hz28 Ls xs))) hN_54 4 rfl ?_
  exact Ev.fin hN_54 rfl rfl
def hz29 (Ls : Nat) (xs : Nat → Int32) : AH := (0, [.inl (Ls, .inl xs), .inr (6, [.ref 2, .ref 5, .ref 12, .null, .null, .int (0 : Int32)]), .inr (4, [.ref 3, .int (1 : Int32), .int (0 : Int32)]), .inr (5, [.ref 4]), .inl (9, .inl fun _ => 0), .inr (3, [.ref 6, .ref 8, .ref 10, .int (0 : Int32)]), .inr (5, [.ref 7]), .inl (200, .inl fun _ => 0), .inr (5, [.ref 9]), .inl (200, .inl fun _ => 0), .inr (5, [.ref 11]), .inl (200, .inl fun _ => 0), .inr (1, [.ref 13, .ref 15, .ref 17, .ref 19, .int (-1 : Int32)]), .inr (5, [.ref 14]), .inl (810, .inl fun _ => 0), .inr (5, [.ref 16]), .inl (90, .inl fun _ => 0), .inr (5, [.ref 18]), .inl (90, .inl fun _ => 0), .inr (5, [.ref 20]), .inl (90, .inl fun _ => 0), .inr (0, [.ref 22, .ref 24, .int (-1 : Int32)]), .inr (5, [.ref 23]), .inl (512, .inl fun _ => 0), .inr (5, [.ref 25]), .inl (512, .inl fun _ => 0)])
theorem ini_13 (hd : 1 ≤ d) : Ev d 0 (ent0 0 [.ref 21] (hz24 Ls xs)) (.inl none, (hz29 Ls xs)) := by
  refine Ev.run (c' := (8, [.ref 21], [.ref 22, .ref 21], (hz25 Ls xs))) hN_0 4 rfl ?_
  refine Ev.run (c' := (12, [.ref 21], [.int (512 : Int32), .ref 22, .ref 22, .ref 21], (hz25 Ls xs))) hN_0 2 rfl ?_
  refine Ev.callR (by omega) hN_0 rfl (y := 54) (as := [.ref 22, .int (512 : Int32)]) (rest := [.ref 22, .ref 21]) rfl (by decide) (ini_11 (by omega)) ?_
  refine Ev.run (c' := (23, [.ref 21], [.ref 24, .ref 24, .ref 21], (hz27 Ls xs))) hN_0 4 rfl ?_
  refine Ev.run (c' := (26, [.ref 21], [.int (512 : Int32), .ref 24, .ref 24, .ref 21], (hz27 Ls xs))) hN_0 1 rfl ?_
  refine Ev.callR (by omega) hN_0 rfl (y := 54) (as := [.ref 24, .int (512 : Int32)]) (rest := [.ref 24, .ref 21]) rfl (by decide) (ini_12 (by omega)) ?_
  refine Ev.run (c' := (37, [.ref 21], [], (hz29 Ls xs))) hN_0 4 rfl ?_
  exact Ev.fin hN_0 rfl rfl
def hz30 (Ls : Nat) (xs : Nat → Int32) : AH := (0, [.inl (Ls, .inl xs), .inr (6, [.ref 2, .ref 5, .ref 12, .ref 21, .null, .int (0 : Int32)]), .inr (4, [.ref 3, .int (1 : Int32), .int (0 : Int32)]), .inr (5, [.ref 4]), .inl (9, .inl fun _ => 0), .inr (3, [.ref 6, .ref 8, .ref 10, .int (0 : Int32)]), .inr (5, [.ref 7]), .inl (200, .inl fun _ => 0), .inr (5, [.ref 9]), .inl (200, .inl fun _ => 0), .inr (5, [.ref 11]), .inl (200, .inl fun _ => 0), .inr (1, [.ref 13, .ref 15, .ref 17, .ref 19, .int (-1 : Int32)]), .inr (5, [.ref 14]), .inl (810, .inl fun _ => 0), .inr (5, [.ref 16]), .inl (90, .inl fun _ => 0), .inr (5, [.ref 18]), .inl (90, .inl fun _ => 0), .inr (5, [.ref 20]), .inl (90, .inl fun _ => 0), .inr (0, [.ref 22, .ref 24, .int (-1 : Int32)]), .inr (5, [.ref 23]), .inl (512, .inl fun _ => 0), .inr (5, [.ref 25]), .inl (512, .inl fun _ => 0), .inr (2, [.int (0 : Int32), .int (0 : Int32)])])
theorem hN_24 : mAt 24 = some km_X2_init := rfl
def hz31 (Ls : Nat) (xs : Nat → Int32) : AH := (0, [.inl (Ls, .inl xs), .inr (6, [.ref 2, .ref 5, .ref 12, .ref 21, .null, .int (0 : Int32)]), .inr (4, [.ref 3, .int (1 : Int32), .int (0 : Int32)]), .inr (5, [.ref 4]), .inl (9, .inl fun _ => 0), .inr (3, [.ref 6, .ref 8, .ref 10, .int (0 : Int32)]), .inr (5, [.ref 7]), .inl (200, .inl fun _ => 0), .inr (5, [.ref 9]), .inl (200, .inl fun _ => 0), .inr (5, [.ref 11]), .inl (200, .inl fun _ => 0), .inr (1, [.ref 13, .ref 15, .ref 17, .ref 19, .int (-1 : Int32)]), .inr (5, [.ref 14]), .inl (810, .inl fun _ => 0), .inr (5, [.ref 16]), .inl (90, .inl fun _ => 0), .inr (5, [.ref 18]), .inl (90, .inl fun _ => 0), .inr (5, [.ref 20]), .inl (90, .inl fun _ => 0), .inr (0, [.ref 22, .ref 24, .int (-1 : Int32)]), .inr (5, [.ref 23]), .inl (512, .inl fun _ => 0), .inr (5, [.ref 25]), .inl (512, .inl fun _ => 0), .inr (2, [.int (0 : Int32), .int (-1 : Int32)])])
theorem ini_14 (hd : 0 ≤ d) : Ev d 24 (ent0 24 [.ref 26] (hz30 Ls xs)) (.inl none, (hz31 Ls xs)) := by
  refine Ev.run (c' := (6, [.ref 26], [.int (0 : Int32), .ref 26], (hz30 Ls xs))) hN_24 4 rfl ?_
  refine Ev.run (c' := (14, [.ref 26], [], (hz31 Ls xs))) hN_24 4 rfl ?_
  exact Ev.fin hN_24 rfl rfl
def hz32 (Ls : Nat) (xs : Nat → Int32) : AH := (0, [.inl (Ls, .inl xs), .inr (6, [.ref 2, .ref 5, .ref 12, .ref 21, .ref 26, .int (0 : Int32)]), .inr (4, [.ref 3, .int (1 : Int32), .int (0 : Int32)]), .inr (5, [.ref 4]), .inl (9, .inl fun _ => 0), .inr (3, [.ref 6, .ref 8, .ref 10, .int (0 : Int32)]), .inr (5, [.ref 7]), .inl (200, .inl fun _ => 0), .inr (5, [.ref 9]), .inl (200, .inl fun _ => 0), .inr (5, [.ref 11]), .inl (200, .inl fun _ => 0), .inr (1, [.ref 13, .ref 15, .ref 17, .ref 19, .int (-1 : Int32)]), .inr (5, [.ref 14]), .inl (810, .inl fun _ => 0), .inr (5, [.ref 16]), .inl (90, .inl fun _ => 0), .inr (5, [.ref 18]), .inl (90, .inl fun _ => 0), .inr (5, [.ref 20]), .inl (90, .inl fun _ => 0), .inr (0, [.ref 22, .ref 24, .int (-1 : Int32)]), .inr (5, [.ref 23]), .inl (512, .inl fun _ => 0), .inr (5, [.ref 25]), .inl (512, .inl fun _ => 0), .inr (2, [.int (0 : Int32), .int (-1 : Int32)])])
theorem hN_42 : mAt 42 = some km_X4_all := rfl
theorem ini_15 (hd : 0 ≤ d) : Ev d 42 (ent0 42 [.ref 2] (hz32 Ls xs)) (.inl (some (.int (1 : Int32))), (hz32 Ls xs)) := by
  refine Ev.run (c' := (6, [.ref 2], [.int (2 : Int32)], (hz32 Ls xs))) hN_42 4 rfl ?_
  refine Ev.run (c' := (8, [.ref 2], [.int (1 : Int32)], (hz32 Ls xs))) hN_42 2 rfl ?_
  exact Ev.fin hN_42 rfl rfl
def hz33 (Ls : Nat) (xs : Nat → Int32) : AH := (0, [.inl (Ls, .inl xs), .inr (6, [.ref 2, .ref 5, .ref 12, .ref 21, .ref 26, .int (1 : Int32)]), .inr (4, [.ref 3, .int (1 : Int32), .int (0 : Int32)]), .inr (5, [.ref 4]), .inl (9, .inl fun _ => 0), .inr (3, [.ref 6, .ref 8, .ref 10, .int (0 : Int32)]), .inr (5, [.ref 7]), .inl (200, .inl fun _ => 0), .inr (5, [.ref 9]), .inl (200, .inl fun _ => 0), .inr (5, [.ref 11]), .inl (200, .inl fun _ => 0), .inr (1, [.ref 13, .ref 15, .ref 17, .ref 19, .int (-1 : Int32)]), .inr (5, [.ref 14]), .inl (810, .inl fun _ => 0), .inr (5, [.ref 16]), .inl (90, .inl fun _ => 0), .inr (5, [.ref 18]), .inl (90, .inl fun _ => 0), .inr (5, [.ref 20]), .inl (90, .inl fun _ => 0), .inr (0, [.ref 22, .ref 24, .int (-1 : Int32)]), .inr (5, [.ref 23]), .inl (512, .inl fun _ => 0), .inr (5, [.ref 25]), .inl (512, .inl fun _ => 0), .inr (2, [.int (0 : Int32), .int (-1 : Int32)])])
theorem ini_16 (hd : 2 ≤ d) : Ev d 58 (ent0 58 [.ref 1] (hz1 Ls xs)) (.inl none, (hz33 Ls xs)) := by
  refine Ev.run (c' := (8, [.ref 1], [.ref 2, .ref 1], (hz2 Ls xs))) hN_58 4 rfl ?_
  refine Ev.run (c' := (9, [.ref 1], [.ref 2, .ref 2, .ref 1], (hz2 Ls xs))) hN_58 1 rfl ?_
  refine Ev.callR (by omega) hN_58 rfl (y := 37) (as := [.ref 2]) (rest := [.ref 2, .ref 1]) rfl (by decide) (ini_1 (by omega)) ?_
  refine Ev.run (c' := (20, [.ref 1], [.ref 5, .ref 5, .ref 1], (hz6 Ls xs))) hN_58 4 rfl ?_
  refine Ev.callR (by omega) hN_58 rfl (y := 29) (as := [.ref 5]) (rest := [.ref 5, .ref 1]) rfl (by decide) (ini_5 (by omega)) ?_
  refine Ev.run (c' := (31, [.ref 1], [.ref 12, .ref 12, .ref 1], (hz14 Ls xs))) hN_58 4 rfl ?_
  refine Ev.callR (by omega) hN_58 rfl (y := 6) (as := [.ref 12]) (rest := [.ref 12, .ref 1]) rfl (by decide) (ini_10 (by omega)) ?_
  refine Ev.run (c' := (42, [.ref 1], [.ref 21, .ref 21, .ref 1], (hz24 Ls xs))) hN_58 4 rfl ?_
  refine Ev.callR (by omega) hN_58 rfl (y := 0) (as := [.ref 21]) (rest := [.ref 21, .ref 1]) rfl (by decide) (ini_13 (by omega)) ?_
  refine Ev.run (c' := (53, [.ref 1], [.ref 26, .ref 26, .ref 1], (hz30 Ls xs))) hN_58 4 rfl ?_
  refine Ev.callR (by omega) hN_58 rfl (y := 24) (as := [.ref 26]) (rest := [.ref 26, .ref 1]) rfl (by decide) (ini_14 (by omega)) ?_
  refine Ev.run (c' := (64, [.ref 1], [.ref 2, .ref 1], (hz32 Ls xs))) hN_58 4 rfl ?_
  refine Ev.callR (by omega) hN_58 rfl (y := 42) (as := [.ref 2]) (rest := [.ref 1]) rfl (by decide) (ini_15 (by omega)) ?_
  refine Ev.run (c' := (70, [.ref 1], [], (hz33 Ls xs))) hN_58 1 rfl ?_
  exact Ev.fin hN_58 rfl rfl
theorem law_begin {o : Ou} (hd : 3 ≤ d) (e : Ev d 83 (8, [.ref 0, .ref 1, jk, jk, jk, jk, jk, jk, jk, jk, jk, jk, jk, jk, jk, jk, jk, jk, jk, jk], [], (hz33 Ls xs)) o) : Ev d 83 (ent0 83 [.ref 0] (hz0 Ls xs)) o := by
  refine Ev.run (c' := (4, [.ref 0, jk, jk, jk, jk, jk, jk, jk, jk, jk, jk, jk, jk, jk, jk, jk, jk, jk, jk, jk], [.ref 1, .ref 1], (hz1 Ls xs))) hN_83 2 rfl ?_
  refine Ev.callR (by omega) hN_83 rfl (y := 58) (as := [.ref 1]) (rest := [.ref 1]) rfl (by decide) (ini_16 (by omega)) ?_
  refine Ev.run (c' := (8, [.ref 0, .ref 1, jk, jk, jk, jk, jk, jk, jk, jk, jk, jk, jk, jk, jk, jk, jk, jk, jk, jk], [], (hz33 Ls xs))) hN_83 1 rfl ?_
  exact e
/-- the world at the loop's beginning -/
def w00 : Wd := (fun _ _ => 0, fun j => match j with
  | 0 => 1
  | 1 => 1
  | 4 => -1
  | 5 => -1
  | 7 => -1
  | _ => 0, fun _ => 0, 0)
theorem hz_last : hz33 Ls xs = hp (Ls, xs) w00 := rfl
end
