/-! THE LAW'S LOOP: one turn. -/
section
variable {E : Nat × (Nat → Int32)} {w : Wd} {d n s v at0 : Nat} {N : Nat → Nat} {D : DL}
def HD (at0 : Nat) (u5 u6 : Value) : List Value := [.ref 0, .ref 1, .ref 27, .ref 37, .int (I at0), u5, u6]
def STEP (E : Nat × (Nat → Int32)) (w : Wd) (v d at0 : Nat) : Prop := ∃ w2, OUT w v w2 ∧ ∀ u5 u6 o, (∀ a b, Ev d 153 (23, HD (at0 + 5) a b, [], hp E w2) o) → Ev d 153 (23, HD at0 u5 u6, [], hp E w) o
theorem lg_cmp_self {x y : Int64} (h : x = y) : lg_cmp x y = 0 := by
  subst h
  unfold lg_cmp
  rw [if_neg (Int64.lt_irrefl), if_pos rfl]
theorem at_end (h : at0 + 5 ≤ E.1) (hE : E.1 ≤ 2560) : ¬ ((I E.1) - (5 : Int32)) < I at0 := by
  rw [show I E.1 - (5 : Int32) = I (E.1 - 5) from I_sub (b := 5) (by omega), I_lt (by omega) (by omega)]
  omega
theorem law_18 (hd : 100 ≤ d) (h : at0 + 5 ≤ E.1) (hE : E.1 ≤ 2560) (S : Sim w n N s D v) (hc : E.2 at0 &&& 31 = 18) : STEP E w v d at0 := by
  obtain ⟨w1, v1, w2, v2, e1, e2, h3, h4, hO⟩ := op_rounds (E := E) (d := d - 1) (x := E.2 (at0 + 1)) (by omega) S
  refine ⟨w2, hO, fun u5 u6 o e => ?_⟩
  by_cases h0 : v1 = 0
  · exact p153_23_c (by omega) (at_end h hE) rfl (by omega) (by omega) hc (I_add at0 1) (by omega) rfl e1 (I_add at0 1) (by omega) rfl e2 h3 h0 (lg_cmp_self (h4 h0)) (I_add at0 5) (e _ _)
  · exact p153_23_d (by omega) (at_end h hE) rfl (by omega) (by omega) hc (I_add at0 1) (by omega) rfl e1 (I_add at0 1) (by omega) rfl e2 h3 h0 (I_add at0 5) (e _ _)
theorem law_17 (hd : 100 ≤ d) (h : at0 + 5 ≤ E.1) (hE : E.1 ≤ 2560) (S : Sim w n N s D v) (hc : E.2 at0 &&& 31 = 17) : STEP E w v d at0 := by
  obtain ⟨w1, v1, w2, v2, e1, e2, h3, h4, hO⟩ := op_forced (E := E) (d := d - 1) (x := E.2 (at0 + 1)) (by omega) S
  refine ⟨w2, hO, fun u5 u6 o e => ?_⟩
  by_cases h0 : v1 = 0
  · exact p153_23_e (by omega) (at_end h hE) rfl (by omega) (by omega) hc (I_add at0 1) (by omega) rfl e1 (I_add at0 1) (by omega) rfl e2 h3 h0 (lg_cmp_self (h4 h0)) (I_add at0 5) (e _ _)
  · exact p153_23_f (by omega) (at_end h hE) rfl (by omega) (by omega) hc (I_add at0 1) (by omega) rfl e1 (I_add at0 1) (by omega) rfl e2 h3 h0 (I_add at0 5) (e _ _)
theorem law_15 (hd : 100 ≤ d) (h : at0 + 5 ≤ E.1) (hE : E.1 ≤ 2560) (S : Sim w n N s D v) (hc : E.2 at0 &&& 31 = 15) : STEP E w v d at0 := by
  obtain ⟨w1, v1, w2, v2, e1, e2, h3, h4, hO⟩ := op_huntAnew (E := E) (d := d - 1) (x := E.2 (at0 + 1)) (by omega) S
  refine ⟨w2, hO, fun u5 u6 o e => ?_⟩
  by_cases h0 : v1 = 0
  · exact p153_23_h (by omega) (at_end h hE) rfl (by omega) (by omega) hc (I_add at0 1) (by omega) rfl e1 (I_add at0 1) (by omega) rfl e2 h3 h0 (lg_cmp_self (h4 h0)) (I_add at0 5) (e _ _)
  · exact p153_23_i (by omega) (at_end h hE) rfl (by omega) (by omega) hc (I_add at0 1) (by omega) rfl e1 (I_add at0 1) (by omega) rfl e2 h3 h0 (I_add at0 5) (e _ _)
theorem law_6 (hd : 100 ≤ d) (h : at0 + 5 ≤ E.1) (hE : E.1 ≤ 2560) (S : Sim w n N s D v) (hc : E.2 at0 &&& 31 = 6) : STEP E w v d at0 := by
  obtain ⟨w1, v1, w2, v2, e1, e2, h3, h4, hO⟩ := op_next (E := E) (d := d - 1) (x := E.2 (at0 + 1)) (by omega) S
  refine ⟨w2, hO, fun u5 u6 o e => ?_⟩
  by_cases h0 : v1 = 0
  · exact p153_23_x (by omega) (at_end h hE) rfl (by omega) (by omega) hc (I_add at0 1) (by omega) rfl e1 (I_add at0 1) (by omega) rfl e2 h3 h0 (lg_cmp_self (h4 h0)) (I_add at0 5) (e _ _)
  · exact p153_23_y (by omega) (at_end h hE) rfl (by omega) (by omega) hc (I_add at0 1) (by omega) rfl e1 (I_add at0 1) (by omega) rfl e2 h3 h0 (I_add at0 5) (e _ _)
theorem law_3 (hd : 100 ≤ d) (h : at0 + 5 ≤ E.1) (hE : E.1 ≤ 2560) (S : Sim w n N s D v) (hc : E.2 at0 &&& 31 = 3) : STEP E w v d at0 := by
  obtain ⟨w1, v1, w2, v2, e1, e2, h3, h4, hO⟩ := op_shoot (E := E) (d := d - 1) (x := E.2 (at0 + 1)) (by omega) S
  refine ⟨w2, hO, fun u5 u6 o e => ?_⟩
  by_cases h0 : v1 = 0
  · exact p153_23_29 (by omega) (at_end h hE) rfl (by omega) (by omega) hc (I_add at0 1) (by omega) rfl e1 (I_add at0 1) (by omega) rfl e2 h3 h0 (lg_cmp_self (h4 h0)) (I_add at0 5) (e _ _)
  · exact p153_23_30 (by omega) (at_end h hE) rfl (by omega) (by omega) hc (I_add at0 1) (by omega) rfl e1 (I_add at0 1) (by omega) rfl e2 h3 h0 (I_add at0 5) (e _ _)
theorem law_1 (hd : 100 ≤ d) (h : at0 + 5 ≤ E.1) (hE : E.1 ≤ 2560) (S : Sim w n N s D v) (hc : E.2 at0 &&& 31 = 1) : STEP E w v d at0 := by
  obtain ⟨w1, v1, w2, v2, e1, e2, h3, h4, hO⟩ := op_family (E := E) (d := d - 1) (x := E.2 (at0 + 1)) (by omega) S
  refine ⟨w2, hO, fun u5 u6 o e => ?_⟩
  by_cases h0 : v1 = 0
  · exact p153_23_43 (by omega) (at_end h hE) rfl (by omega) (by omega) hc (I_add at0 1) (by omega) rfl e1 (I_add at0 1) (by omega) rfl e2 h3 h0 (lg_cmp_self (h4 h0)) (I_add at0 5) (e _ _)
  · exact p153_23_44 (by omega) (at_end h hE) rfl (by omega) (by omega) hc (I_add at0 1) (by omega) rfl e1 (I_add at0 1) (by omega) rfl e2 h3 h0 (I_add at0 5) (e _ _)
theorem law_0 (hd : 100 ≤ d) (h : at0 + 5 ≤ E.1) (hE : E.1 ≤ 2560) (S : Sim w n N s D v) (hc : E.2 at0 &&& 31 = 0) : STEP E w v d at0 := by
  obtain ⟨w1, v1, w2, v2, e1, e2, h3, h4, hO⟩ := op_rooms (E := E) (d := d - 1) (x := E.2 (at0 + 1)) (by omega) S
  refine ⟨w2, hO, fun u5 u6 o e => ?_⟩
  by_cases h0 : v1 = 0
  · exact p153_23_45 (by omega) (at_end h hE) rfl (by omega) (by omega) hc (I_add at0 1) (by omega) rfl e1 (I_add at0 1) (by omega) rfl e2 h3 h0 (lg_cmp_self (h4 h0)) (I_add at0 5) (e _ _)
  · exact p153_23_46 (by omega) (at_end h hE) rfl (by omega) (by omega) hc (I_add at0 1) (by omega) rfl e1 (I_add at0 1) (by omega) rfl e2 h3 h0 (I_add at0 5) (e _ _)
theorem law_10 (hd : 100 ≤ d) (h : at0 + 5 ≤ E.1) (hE : E.1 ≤ 2560) (S : Sim w n N s D v) (K : CAP n N) (hv : v < 2147483648) (hc : E.2 at0 &&& 31 = 10) : STEP E w v d at0 := by
  obtain ⟨w1, v1, w2, v2, e1, e2, h3, h4, hO⟩ := op_away (E := E) (d := d - 1) (x := E.2 (at0 + 1)) (y := E.2 (at0 + 2)) (z := E.2 (at0 + 3)) (by omega) S K hv
  refine ⟨w2, hO, fun u5 u6 o e => ?_⟩
  by_cases h0 : v1 = 0
  · exact p153_23_p (by omega) (at_end h hE) rfl (by omega) (by omega) hc (I_add at0 1) (by omega) (I_add at0 2) (by omega) (I_add at0 3) (by omega) rfl rfl rfl e1 (I_add at0 1) (by omega) (I_add at0 2) (by omega) (I_add at0 3) (by omega) rfl rfl rfl e2 h3 h0 (lg_cmp_self (h4 h0)) (I_add at0 5) (e _ _)
  · exact p153_23_q (by omega) (at_end h hE) rfl (by omega) (by omega) hc (I_add at0 1) (by omega) (I_add at0 2) (by omega) (I_add at0 3) (by omega) rfl rfl rfl e1 (I_add at0 1) (by omega) (I_add at0 2) (by omega) (I_add at0 3) (by omega) rfl rfl rfl e2 h3 h0 (I_add at0 5) (e _ _)
theorem law_9 (hd : 100 ≤ d) (h : at0 + 5 ≤ E.1) (hE : E.1 ≤ 2560) (S : Sim w n N s D v) (K : CAP n N) (hv : v < 2147483648) (hc : E.2 at0 &&& 31 = 9) : STEP E w v d at0 := by
  obtain ⟨w1, v1, w2, v2, e1, e2, h3, h4, hO⟩ := op_step (E := E) (d := d - 1) (x := E.2 (at0 + 1)) (y := E.2 (at0 + 2)) (z := E.2 (at0 + 3)) (by omega) S K hv
  refine ⟨w2, hO, fun u5 u6 o e => ?_⟩
  by_cases h0 : v1 = 0
  · exact p153_23_r (by omega) (at_end h hE) rfl (by omega) (by omega) hc (I_add at0 1) (by omega) (I_add at0 2) (by omega) (I_add at0 3) (by omega) rfl rfl rfl e1 (I_add at0 1) (by omega) (I_add at0 2) (by omega) (I_add at0 3) (by omega) rfl rfl rfl e2 h3 h0 (lg_cmp_self (h4 h0)) (I_add at0 5) (e _ _)
  · exact p153_23_s (by omega) (at_end h hE) rfl (by omega) (by omega) hc (I_add at0 1) (by omega) (I_add at0 2) (by omega) (I_add at0 3) (by omega) rfl rfl rfl e1 (I_add at0 1) (by omega) (I_add at0 2) (by omega) (I_add at0 3) (by omega) rfl rfl rfl e2 h3 h0 (I_add at0 5) (e _ _)
theorem law_7 (hd : 100 ≤ d) (h : at0 + 5 ≤ E.1) (hE : E.1 ≤ 2560) (S : Sim w n N s D v) (K : CAP n N) (hv : v < 2147483648) (hc : E.2 at0 &&& 31 = 7) : STEP E w v d at0 := by
  obtain ⟨w1, v1, w2, v2, e1, e2, h3, h4, hO⟩ := op_time (E := E) (d := d - 1) (x := E.2 (at0 + 1)) (y := E.2 (at0 + 2)) (z := E.2 (at0 + 3)) (by omega) S K hv
  refine ⟨w2, hO, fun u5 u6 o e => ?_⟩
  by_cases h0 : v1 = 0
  · exact p153_23_v (by omega) (at_end h hE) rfl (by omega) (by omega) hc (I_add at0 1) (by omega) (I_add at0 2) (by omega) (I_add at0 3) (by omega) rfl rfl rfl e1 (I_add at0 1) (by omega) (I_add at0 2) (by omega) (I_add at0 3) (by omega) rfl rfl rfl e2 h3 h0 (lg_cmp_self (h4 h0)) (I_add at0 5) (e _ _)
  · exact p153_23_w (by omega) (at_end h hE) rfl (by omega) (by omega) hc (I_add at0 1) (by omega) (I_add at0 2) (by omega) (I_add at0 3) (by omega) rfl rfl rfl e1 (I_add at0 1) (by omega) (I_add at0 2) (by omega) (I_add at0 3) (by omega) rfl rfl rfl e2 h3 h0 (I_add at0 5) (e _ _)
theorem law_8 (hd : 100 ≤ d) (h : at0 + 5 ≤ E.1) (hE : E.1 ≤ 2560) (S : Sim w n N s D v) (hc : E.2 at0 &&& 31 = 8) : STEP E w v d at0 := by
  obtain ⟨w1, v1, w2, v2, e1, e2, h3, h4, hO⟩ := op_timeAnew (E := E) (d := d - 1) (x := E.2 (at0 + 1)) (y := E.2 (at0 + 2)) (z := E.2 (at0 + 3)) (t := E.2 (at0 + 4)) (by omega) S
  refine ⟨w2, hO, fun u5 u6 o e => ?_⟩
  by_cases h0 : v1 = 0
  · exact p153_23_t (by omega) (at_end h hE) rfl (by omega) (by omega) hc (I_add at0 1) (by omega) (I_add at0 2) (by omega) (I_add at0 3) (by omega) (I_add at0 4) (by omega) rfl rfl rfl rfl e1 (I_add at0 1) (by omega) (I_add at0 2) (by omega) (I_add at0 3) (by omega) (I_add at0 4) (by omega) rfl rfl rfl rfl e2 h3 h0 (lg_cmp_self (h4 h0)) (I_add at0 5) (e _ _)
  · exact p153_23_u (by omega) (at_end h hE) rfl (by omega) (by omega) hc (I_add at0 1) (by omega) (I_add at0 2) (by omega) (I_add at0 3) (by omega) (I_add at0 4) (by omega) rfl rfl rfl rfl e1 (I_add at0 1) (by omega) (I_add at0 2) (by omega) (I_add at0 3) (by omega) (I_add at0 4) (by omega) rfl rfl rfl rfl e2 h3 h0 (I_add at0 5) (e _ _)
theorem law_4 (hd : 100 ≤ d) (h : at0 + 5 ≤ E.1) (hE : E.1 ≤ 2560) (S : Sim w n N s D v) (hc : E.2 at0 &&& 31 = 4) : STEP E w v d at0 := by
  obtain ⟨w1, v1, w2, v2, e1, e2, h3, h4, hO⟩ := op_back (E := E) (d := d - 1) (by omega) S
  refine ⟨w2, hO, fun u5 u6 o e => ?_⟩
  by_cases h0 : v1 = 0
  · exact p153_23_27 (by omega) (at_end h hE) rfl (by omega) (by omega) hc e1 e2 h3 h0 (lg_cmp_self (h4 h0)) (I_add at0 5) (e _ _)
  · exact p153_23_28 (by omega) (at_end h hE) rfl (by omega) (by omega) hc e1 e2 h3 h0 (I_add at0 5) (e _ _)
theorem law_19 (hd : 100 ≤ d) (h : at0 + 5 ≤ E.1) (hE : E.1 ≤ 2560) (S : Sim w n N s D v) (hv : v < 2147483648) (hc : E.2 at0 &&& 31 = 19) : STEP E w v d at0 := by
  obtain ⟨w1, v1, w2, e1, e2, hO⟩ := op_leastBlue (E := E) (d := d - 1) (by omega) S hv
  exact ⟨w2, hO, fun u5 u6 o e => p153_23_b (by omega) (at_end h hE) rfl (by omega) (by omega) hc e1 e2 rfl (I_add at0 5) (e _ _)⟩
theorem law_16 (hd : 100 ≤ d) (h : at0 + 5 ≤ E.1) (hE : E.1 ≤ 2560) (S : Sim w n N s D v) (hv : v < 2147483648) (hc : E.2 at0 &&& 31 = 16) : STEP E w v d at0 := by
  obtain ⟨w1, v1, w2, e1, e2, hO⟩ := op_aim (E := E) (d := d - 1) (by omega) S hv
  exact ⟨w2, hO, fun u5 u6 o e => p153_23_g (by omega) (at_end h hE) rfl (by omega) (by omega) hc e1 e2 rfl (I_add at0 5) (e _ _)⟩
theorem law_14 (hd : 100 ≤ d) (h : at0 + 5 ≤ E.1) (hE : E.1 ≤ 2560) (S : Sim w n N s D v) (hv : v < 2147483648) (hc : E.2 at0 &&& 31 = 14) : STEP E w v d at0 := by
  obtain ⟨w1, v1, w2, e1, e2, hO⟩ := op_hunt (E := E) (d := d - 1) (by omega) S hv
  exact ⟨w2, hO, fun u5 u6 o e => p153_23_j (by omega) (at_end h hE) rfl (by omega) (by omega) hc e1 e2 rfl (I_add at0 5) (e _ _)⟩
theorem law_12 (hd : 100 ≤ d) (h : at0 + 5 ≤ E.1) (hE : E.1 ≤ 2560) (S : Sim w n N s D v) (hc : E.2 at0 &&& 31 = 12) : STEP E w v d at0 := by
  obtain ⟨w1, v1, w2, e1, e2, hO⟩ := op_fallsApart (E := E) (d := d - 1) (by omega) S
  exact ⟨w2, hO, fun u5 u6 o e => p153_23_l (by omega) (at_end h hE) rfl (by omega) (by omega) hc e1 e2 rfl (I_add at0 5) (e _ _)⟩
theorem law_5 (hd : 100 ≤ d) (h : at0 + 5 ≤ E.1) (hE : E.1 ≤ 2560) (S : Sim w n N s D v) (hc : E.2 at0 &&& 31 = 5) : STEP E w v d at0 := by
  obtain ⟨w1, v1, w2, e1, e2, hO⟩ := op_doors (E := E) (d := d - 1) (by omega) S
  exact ⟨w2, hO, fun u5 u6 o e => p153_23_z (by omega) (at_end h hE) rfl (by omega) (by omega) hc e1 e2 rfl (I_add at0 5) (e _ _)⟩
theorem law_13 (hd : 100 ≤ d) (h : at0 + 5 ≤ E.1) (hE : E.1 ≤ 2560) (S : Sim w n N s D v) (hc : E.2 at0 &&& 31 = 13) : STEP E w v d at0 :=
  ⟨sF 8 0 w, Sim.out S.f8 (Nat.le_succ _), fun u5 u6 o e => p153_23_k (by omega) (at_end h hE) rfl (by omega) (by omega) hc sp127 (S.cs.trans S.ms.symm) (I_add at0 5) (e _ _)⟩
theorem law_11 (hd : 100 ≤ d) (h : at0 + 5 ≤ E.1) (hE : E.1 ≤ 2560) (S : Sim w n N s D v) (K : CAP n N) (hv : v < 2147483648) (hc : E.2 at0 &&& 31 = 11) : STEP E w v d at0 := by
  obtain ⟨w1, v1, w2, b, e1, e2, h3, h4, hO⟩ := op_catches (E := E) (d := d - 1) (x := E.2 (at0 + 1)) (by omega) S K hv
  refine ⟨w2, hO, fun u5 u6 o e => ?_⟩
  by_cases h0 : v1 = 0
  · cases b with
    | true => exact p153_23_m (by omega) (at_end h hE) rfl (by omega) (by omega) hc (I_add at0 1) (by omega) rfl e1 (I_add at0 1) (by omega) rfl e2 h3 h0 (by decide) (lg_cmp_self (h4 h0)) (I_add at0 5) (e _ _)
    | false => exact p153_23_n (by omega) (at_end h hE) rfl (by omega) (by omega) hc (I_add at0 1) (by omega) rfl e1 (I_add at0 1) (by omega) rfl e2 h3 h0 rfl (lg_cmp_self (h4 h0)) (I_add at0 5) (e _ _)
  · exact p153_23_o (by omega) (at_end h hE) rfl (by omega) (by omega) hc (I_add at0 1) (by omega) rfl e1 (I_add at0 1) (by omega) rfl e2 h3 h0 (I_add at0 5) (e _ _)
theorem law_2 (hd : 100 ≤ d) (h : at0 + 5 ≤ E.1) (hE : E.1 ≤ 2560) (S : Sim w n N s D v) (hc : E.2 at0 &&& 31 = 2) : STEP E w v d at0 := by
  by_cases hz : E.2 (at0 + 3) = 0
  ·
    obtain ⟨w1, v1, w2, b, e1, e2, h3, h4, hO⟩ := op_door (E := E) (d := d - 1) (x := E.2 (at0 + 1)) (y := E.2 (at0 + 2)) (is := false) (by omega) S
    refine ⟨w2, hO, fun u5 u6 o e => ?_⟩
    by_cases h0 : v1 = 0
    · cases b with
      | true => exact p153_23_40 (by omega) (at_end h hE) rfl (by omega) (by omega) hc (I_add at0 1) (by omega) (I_add at0 2) (by omega) (I_add at0 3) (by omega) hz rfl rfl e1 (I_add at0 1) (by omega) (I_add at0 2) (by omega) (I_add at0 3) (by omega) hz rfl rfl e2 h3 h0 (by decide) (lg_cmp_self (h4 h0)) (I_add at0 5) (e _ _)
      | false => exact p153_23_41 (by omega) (at_end h hE) rfl (by omega) (by omega) hc (I_add at0 1) (by omega) (I_add at0 2) (by omega) (I_add at0 3) (by omega) hz rfl rfl e1 (I_add at0 1) (by omega) (I_add at0 2) (by omega) (I_add at0 3) (by omega) hz rfl rfl e2 h3 h0 rfl (lg_cmp_self (h4 h0)) (I_add at0 5) (e _ _)
    · exact p153_23_42 (by omega) (at_end h hE) rfl (by omega) (by omega) hc (I_add at0 1) (by omega) (I_add at0 2) (by omega) (I_add at0 3) (by omega) hz rfl rfl e1 (I_add at0 1) (by omega) (I_add at0 2) (by omega) (I_add at0 3) (by omega) hz rfl rfl e2 h3 h0 (I_add at0 5) (e _ _)
  ·
    obtain ⟨w1, v1, w2, b, e1, e2, h3, h4, hO⟩ := op_door (E := E) (d := d - 1) (x := E.2 (at0 + 1)) (y := E.2 (at0 + 2)) (is := true) (by omega) S
    refine ⟨w2, hO, fun u5 u6 o e => ?_⟩
    by_cases h0 : v1 = 0
    · cases b with
      | true => exact p153_23_31 (by omega) (at_end h hE) rfl (by omega) (by omega) hc (I_add at0 1) (by omega) (I_add at0 2) (by omega) (I_add at0 3) (by omega) hz rfl rfl e1 (I_add at0 1) (by omega) (I_add at0 2) (by omega) (I_add at0 3) (by omega) hz rfl rfl e2 h3 h0 (by decide) (lg_cmp_self (h4 h0)) (I_add at0 5) (e _ _)
      | false => exact p153_23_32 (by omega) (at_end h hE) rfl (by omega) (by omega) hc (I_add at0 1) (by omega) (I_add at0 2) (by omega) (I_add at0 3) (by omega) hz rfl rfl e1 (I_add at0 1) (by omega) (I_add at0 2) (by omega) (I_add at0 3) (by omega) hz rfl rfl e2 h3 h0 rfl (lg_cmp_self (h4 h0)) (I_add at0 5) (e _ _)
    · exact p153_23_33 (by omega) (at_end h hE) rfl (by omega) (by omega) hc (I_add at0 1) (by omega) (I_add at0 2) (by omega) (I_add at0 3) (by omega) hz rfl rfl e1 (I_add at0 1) (by omega) (I_add at0 2) (by omega) (I_add at0 3) (by omega) hz rfl rfl e2 h3 h0 (I_add at0 5) (e _ _)
theorem law_step (hd : 100 ≤ d) (h : at0 + 5 ≤ E.1) (hE : E.1 ≤ 2560) (S : Sim w n N s D v) (K : CAP n N) (hv : v < 2147483648) : STEP E w v d at0 := by
  by_cases hdf : decide ((E.2 at0 &&& 31).toInt < 0 ∨ 19 < (E.2 at0 &&& 31).toInt) = true
  · exact ⟨w, Sim.out S (Nat.le_succ _), fun u5 u6 o e => p153_23_a (at_end h hE) rfl (by omega) (by omega) hdf (I_add at0 5) (e _ _)⟩
  · have hr : ¬ ((E.2 at0 &&& 31).toInt < 0 ∨ 19 < (E.2 at0 &&& 31).toInt) := fun z => hdf (decide_eq_true z)
    obtain ⟨k, hk, hc⟩ := nn_ex (x := E.2 at0 &&& 31) (k := 19) (by decide) (fun z => hr (Or.inl (by rw [Int32.lt_iff_toInt_lt] at z; exact z))) (fun z => hr (Or.inr (by rw [Int32.lt_iff_toInt_lt] at z; exact z)))
    have hk' : k = 0 ∨ k = 1 ∨ k = 2 ∨ k = 3 ∨ k = 4 ∨ k = 5 ∨ k = 6 ∨ k = 7 ∨ k = 8 ∨ k = 9 ∨ k = 10 ∨ k = 11 ∨ k = 12 ∨ k = 13 ∨ k = 14 ∨ k = 15 ∨ k = 16 ∨ k = 17 ∨ k = 18 ∨ k = 19 := by omega
    rcases hk' with rfl | rfl | rfl | rfl | rfl | rfl | rfl | rfl | rfl | rfl | rfl | rfl | rfl | rfl | rfl | rfl | rfl | rfl | rfl | rfl
    · exact law_0 hd h hE S hc
    · exact law_1 hd h hE S hc
    · exact law_2 hd h hE S hc
    · exact law_3 hd h hE S hc
    · exact law_4 hd h hE S hc
    · exact law_5 hd h hE S hc
    · exact law_6 hd h hE S hc
    · exact law_7 hd h hE S K hv hc
    · exact law_8 hd h hE S hc
    · exact law_9 hd h hE S K hv hc
    · exact law_10 hd h hE S K hv hc
    · exact law_11 hd h hE S K hv hc
    · exact law_12 hd h hE S hc
    · exact law_13 hd h hE S hc
    · exact law_14 hd h hE S hv hc
    · exact law_15 hd h hE S hc
    · exact law_16 hd h hE S hv hc
    · exact law_17 hd h hE S hc
    · exact law_18 hd h hE S hc
    · exact law_19 hd h hE S hv hc
end
