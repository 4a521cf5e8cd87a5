/-! THE LAW: a turn's checks, the turns, the whole. -/
section
variable {E : Nat × (Nat → Int32)} {w : Wd} {d n s v : Nat} {N : Nat → Nat} {D : DL}
/-- what goes on behind a turn's checks -/
def K484 (E : Nat × (Nat → Int32)) (d n v : Nat) (N : Nat → Nat) (D : DL) (x3 : Int32) : Prop := ∀ (w1 : Wd), St w1 n N (2 ^ n - 1) D v → ∀ (x4 x5 x6 : Int32) (u7 u8 u9 u10 u11 u12 u13 u14 u15 u16 u17 u18 u19 : Value), GD E d 484 [.ref 0, .ref 1, .int (I n), .int x3, .int x4, .int x5, .int x6, u7, u8, u9, u10, u11, u12, u13, u14, u15, u16, u17, u18, u19] w1
theorem lw_452 (hd : 9 ≤ d) (hv1 : v < 2147483648) (S : St w n N (2 ^ n - 1) D v) {x3 x4 x5 x6 x7 x8 x9 x10 x11 x12 x13 x14 x15 : Int32} (K : K484 E d n v N D x3) {u16 u17 u18 u19 : Value} : GD E d 452 [.ref 0, .ref 1, .int (I n), .int x3, .int x4, .int x5, .int x6, .int x7, .int x8, .int x9, .int x10, .int x11, .int x12, .int x13, .int x14, .int x15, u16, u17, u18, u19] w := by
  have C := cap_all n N S.gw
  obtain ⟨w1, e1, S1⟩ := op_one (E := E) (d := d - 1) (by omega) S C hv1
  have e2 := op_falls (E := E) (d := d - 1) (by omega) S1
  rw [← cop_win S.gw C] at e2
  obtain ⟨w3, e3, S3⟩ := op_one (E := E) (d := d - 1) (by omega) S1 C hv1
  cases hc : cfB n N 9 with
  | false =>
    rw [hc] at e1 e2 e3
    exact GD.by (fun _ e => p83_452_e (by omega) e1 e2 rfl e3 rfl e) (K _ S3 _ _ _ _ _ _ _ _ _ _ _ _ _ _ _ _)
  | true =>
    obtain ⟨w4, e4, S4⟩ := op_two (E := E) (d := d - 1) (by omega) S3 C hv1
    rw [one_two S.gw hc] at e4
    rw [hc] at e1 e2 e3
    exact GD.by (fun _ e => p83_452_d (by omega) e1 e2 rfl e3 (by decide) e4 (by decide) e) (K _ S4 _ _ _ _ _ _ _ _ _ _ _ _ _ _ _ _)
theorem ten_div : ∀ s : Nat, s < 100 → I s / (10 : Int32) = I (s / 10) := by decide +kernel
theorem ten_rem : ∀ s : Nat, s < 100 → I s - I s / (10 : Int32) * (10 : Int32) = I (s % 10) := by decide +kernel
theorem tv_lt1 {t : Nat} : tv t < (1 : Int32) ↔ ¬ (0 < t ∧ t < 99) := by
  by_cases h : t < 99
  · rw [tv_I h, show (1 : Int32) = I 1 from rfl, I_lt (by omega) (by omega)]
    omega
  · rw [tv_m1.mpr (by omega)]
    exact ⟨fun _ z => h z.2, fun _ => by decide⟩
theorem lw_318 (hd : 9 ≤ d) (hv1 : v < 2147483648) (S : St w n N (2 ^ n - 1) D v) {a b r : Nat} (ha : a < n) (hb : b < n) (hr : r < n) {x3 x4 x5 x6 x10 x12 x13 x14 : Int32} (K : K484 E d n v N D x3) {u15 u16 u17 u18 u19 : Value} : GD E d 318 [.ref 0, .ref 1, .int (I n), .int x3, .int x4, .int x5, .int x6, .int (I a), .int (I b), .int (I r), .int x10, .int (tv (tau n N a b r)), .int x12, .int x13, .int x14, u15, u16, u17, u18, u19] w := by
  have G := S.gw
  have hn := G.n9
  have C := cap_all n N G
  obtain ⟨w1, e1, S1⟩ := op_step (E := E) (d := d - 1) (by omega) S C hv1 ha (PB.some hn hb) hr
  by_cases h : 0 < tau n N a b r ∧ tau n N a b r < 99
  · obtain ⟨lo, hi, h1, h2, h3, h4⟩ := step_two G ha hb h.1 h.2
    rw [h4] at e1
    have hs : 10 * lo + hi < 100 := by omega
    have hdv := ten_div _ hs
    have hrm := ten_rem _ hs
    rw [show (10 * lo + hi) / 10 = lo by omega] at hdv
    rw [show (10 * lo + hi) % 10 = hi by omega] at hrm
    have hnn : ¬ I (10 * lo + hi) < 0 := I_nneg (by omega)
    refine GD.by (fun _ e => p83_318_c (by omega) e1 (I_ne_m1 (by omega)) (fun z => tv_lt1.mp z h) e) ?_
    have one : (lo = r ∨ hi = r) → tv (tau n N a b r) = (1 : Int32) := fun z => by
      have := rho_zero_of (n := n) (N := N) z
      rw [show tau n N a b r = 1 by omega]
      rfl
    by_cases q1 : lo = r
    · exact GD.by (fun _ e => p83_357_e hnn (by rw [hdv, q1]) (one (Or.inl q1)) e) (lw_452 hd hv1 S1 K)
    · have c2 : ¬ I (10 * lo + hi) / (10 : Int32) = I r := by
        rw [hdv]
        exact fun z => q1 ((I_inj (by omega) (by omega)).mp z)
      by_cases q2 : hi = r
      · exact GD.by (fun _ e => p83_357_a hnn c2 (by rw [hrm, q2]) (one (Or.inr q2)) e) (lw_452 hd hv1 S1 K)
      · have c3 : ¬ I (10 * lo + hi) - I (10 * lo + hi) / (10 : Int32) * (10 : Int32) = I r := by
          rw [hrm]
          exact fun z => q2 ((I_inj (by omega) (by omega)).mp z)
        obtain ⟨z, z1, z2, z3, z4⟩ := away_spec (N := N) hr q1 q2
        obtain ⟨w2, e2, S2⟩ := op_away (E := E) (d := d - 1) (by omega) S1 C hv1 h1 (PB.some hn h2) hr
        rw [z3] at e2
        obtain ⟨w3, e3, S3⟩ := op_time (E := E) (d := d - 1) (by omega) S2 C hv1 h1 (PB.some hn h2) z1
        rw [z4] at e3
        have e5 : tv (rho n N lo hi r) = tv (tau n N a b r) - (1 : Int32) := by
          rw [tv_I h.2, tv_I (by omega), show (1 : Int32) = I 1 from rfl, I_sub (by omega)]
          congr 1
          omega
        exact GD.by (fun _ e => p83_357_d (by omega) hnn c2 c3 hdv hrm e2 hdv hrm e3 e5 e) (lw_452 hd hv1 S3 K)
  · rw [step_none h] at e1
    exact GD.by (fun _ e => p83_318_b (by omega) e1 rfl (tv_lt1.mpr h) e) (GD.by (fun _ e => p83_357_f (by decide) e) (lw_452 hd hv1 S1 K))
theorem lw_284 (hd : 9 ≤ d) (hv1 : v < 2147483648) (S : St w n N (2 ^ n - 1) D v) {a b r : Nat} (ha : a < n) (hb : b < n) (hr : r < n) {x3 x4 x5 x6 x12 x13 x14 : Int32} (hx : tau n N a 9 r < 99 → x13 = x14) (K : K484 E d n v N D x3) {u15 u16 u17 u18 u19 : Value} : GD E d 284 [.ref 0, .ref 1, .int (I n), .int x3, .int x4, .int x5, .int x6, .int (I a), .int (I b), .int (I r), .int (tv (tau n N a 9 r)), .int (tv (tau n N a b r)), .int x12, .int x13, .int x14, u15, u16, u17, u18, u19] w := by
  have G := S.gw
  have C := cap_all n N G
  by_cases h : tau n N a 9 r < 99
  · have c1 : ¬ tv (tau n N a 9 r) < 0 := by
      rw [tv_I h]
      exact I_nneg (by omega)
    exact GD.by (fun _ e => p83_284_a c1 (hx h) e) (GD.by (fun _ e => p83_298_c c1 e) (lw_318 hd hv1 S ha hb hr K))
  · have c1 : tv (tau n N a 9 r) < 0 := by
      rw [tv_m1.mpr (by omega)]
      decide
    obtain ⟨w1, e1, S1⟩ := op_step (E := E) (d := d - 1) (by omega) S C hv1 ha PB.none hr
    rw [step_none (fun z => h z.2)] at e1
    exact GD.by (fun _ e => p83_284_b c1 e) (GD.by (fun _ e => p83_298_b (by omega) c1 e1 rfl e) (lw_318 hd hv1 S1 ha hb hr K))
/-- one cop walks by its best steps, the robber by its own: they meet in time -/
theorem lw_212 (hd : 9 ≤ d) (hv1 : v < 2147483648) {a b r : Nat} (ha : a < n) (hb : b < n) (hr : r < n) {x3 x4 x5 x6 : Int32} (K : K484 E d n v N D x3) : ∀ (t c q : Nat) {w : Wd}, St w n N (2 ^ n - 1) D v → c < n → q < n → tau n N c 9 q = t → t < 99 → ∀ {u15 u16 u17 u18 u19 : Value}, GD E d 212 [.ref 0, .ref 1, .int (I n), .int x3, .int x4, .int x5, .int x6, .int (I a), .int (I b), .int (I r), .int (tv (tau n N a 9 r)), .int (tv (tau n N a b r)), .int (I t), .int (I c), .int (I q), u15, u16, u17, u18, u19] w
  | 0, c, q, w, S, hc, hq, ht, h9, u15, u16, u17, u18, u19 => by
    have hn := S.gw.n9
    have e : c = q := by
      rcases tau_zero.mp ht with h | h
      · exact h
      · omega
    exact GD.by (fun _ e => p83_212_f (by decide) e) (lw_284 hd hv1 S ha hb hr (fun _ => by rw [e]) K)
  | t + 1, c, q, w, S, hc, hq, ht, h9, u15, u16, u17, u18, u19 => by
    have G := S.gw
    have hn := G.n9
    have C := cap_all n N G
    obtain ⟨x, hx, h1, h2⟩ := step_one (r := q) G hc (by omega) (by omega)
    obtain ⟨w1, e1, S1⟩ := op_step (E := E) (d := d - 1) (by omega) S C hv1 hc PB.none hq
    rw [h2] at e1
    have c1 : 0 < I (t + 1) := (I_lt (a := 0) (by omega) (by omega)).mpr (by omega)
    have em : I (t + 1) + (-1 : Int32) = I t := by
      rw [← show I t + (1 : Int32) = I (t + 1) from I_add t 1, Int32.add_assoc]
      show I t + ((1 : Int32) + (-1 : Int32)) = I t
      rw [show (1 : Int32) + (-1 : Int32) = 0 by decide, Int32.add_zero]
    by_cases q1 : x = q
    · have h3 := rho_zero_of (n := n) (N := N) (a := x) (b := 9) (r := q) (Or.inl q1)
      have e0 : t = 0 := by omega
      subst e0
      exact GD.by (fun _ e => p83_212_e (by omega) c1 e1 (I_nneg (by omega)) (by rw [q1]) em em e) (lw_212 hd hv1 ha hb hr K 0 x q S1 hx hq (tau_zero.mpr (Or.inl q1)) (by omega))
    · obtain ⟨z, z1, z2, z3, z4⟩ := away_spec (n := n) (N := N) (a := x) (b := 9) hq q1 (by omega)
      obtain ⟨w2, e2, S2⟩ := op_away (E := E) (d := d - 1) (by omega) S1 C hv1 hx PB.none hq
      rw [z3] at e2
      obtain ⟨w3, e3, S3⟩ := op_time (E := E) (d := d - 1) (by omega) S2 C hv1 hx PB.none z1
      have h4 : tau n N x 9 z = t := by omega
      rw [h4, tv_I (by omega)] at e3
      exact GD.by (fun _ e => p83_212_d (by omega) c1 e1 (I_nneg (by omega)) (fun y => q1 ((I_inj (by omega) (by omega)).mp y)) e2 (I_nneg (by omega)) e3 em.symm em e) (lw_212 hd hv1 ha hb hr K t x z S3 hx z1 h4 (by omega))
theorem lw_200 (hd : 9 ≤ d) (hv1 : v < 2147483648) (S : St w n N (2 ^ n - 1) D v) {a b r : Nat} (ha : a < n) (hb : b < n) (hr : r < n) {x3 x4 x5 x6 : Int32} (K : K484 E d n v N D x3) {u12 u13 u14 u15 u16 u17 u18 u19 : Value} : GD E d 200 [.ref 0, .ref 1, .int (I n), .int x3, .int x4, .int x5, .int x6, .int (I a), .int (I b), .int (I r), .int (tv (tau n N a 9 r)), .int (tv (tau n N a b r)), u12, u13, u14, u15, u16, u17, u18, u19] w := by
  refine GD.by (fun _ e => p83_200_a e) ?_
  by_cases h : tau n N a 9 r < 99
  · have := lw_212 (E := E) hd hv1 ha hb hr K _ a r S ha hr rfl h (u15 := u15) (u16 := u16) (u17 := u17) (u18 := u18) (u19 := u19) (x4 := x4) (x5 := x5) (x6 := x6)
    rw [← tv_I h] at this
    exact this
  · have hm : tv (tau n N a 9 r) = -1 := tv_m1.mpr (by omega)
    exact GD.by (fun _ e => p83_212_f (by rw [hm]; decide) e) (lw_284 hd hv1 S ha hb hr (fun z => absurd z h) K)
theorem div_lt {m j : Nat} (h : m < 2147483648) : m / j < 2147483648 := Nat.lt_of_le_of_lt (Nat.div_le_self m j) h
theorem lw_101 (hd : 9 ≤ d) (hv1 : v < 2147483648) (S : St w n N (2 ^ n - 1) D v) {m : Nat} (hm : m < 2147483648) {x3 x5 x6 : Int32} (K : K484 E d n v N D x3) {u7 u8 u9 u10 u11 u12 u13 u14 u15 u16 u17 u18 u19 : Value} : GD E d 101 [.ref 0, .ref 1, .int (I n), .int x3, .int (I m), .int x5, .int x6, u7, u8, u9, u10, u11, u12, u13, u14, u15, u16, u17, u18, u19] w := by
  by_cases h6 : x3 - x3 / (6 : Int32) * (6 : Int32) = 5
  · have G := S.gw
    have hn := G.n9
    have hn1 := G.n1
    have C := cap_all n N G
    have ma := fun j => op_at (E := E) (w := w) (d := d - 1) (m := m / 2 ^ j) (k := n) (div_lt hm) (by omega) hn1
    have ha : m / 2 ^ 3 / 2 % n < n := Nat.mod_lt _ (by omega)
    have hb : m / 2 ^ 8 / 2 % n < n := Nat.mod_lt _ (by omega)
    have hr : m / 2 ^ 13 / 2 % n < n := Nat.mod_lt _ (by omega)
    obtain ⟨w1, e1, S1⟩ := op_time (E := E) (d := d - 1) (by omega) S C hv1 ha PB.none hr
    obtain ⟨w2, e2, S2⟩ := op_time (E := E) (d := d - 1) (by omega) S1 C hv1 ha (PB.some hn hb) hr
    obtain ⟨w3, e3, S3⟩ := op_time (E := E) (d := d - 1) (by omega) S2 C hv1 hb (PB.some hn ha) hr
    rw [← tau_swap G ha hb] at e3
    have h2 := tau_two G (a := m / 2 ^ 3 / 2 % n) (Or.inl hb) hr
    by_cases h : tau n N (m / 2 ^ 3 / 2 % n) 9 (m / 2 ^ 13 / 2 % n) < 99
    · refine GD.by (fun _ e => p83_101_d (by omega) h6 (I_shr hm (j := 3) (by omega)) (ma 3) (I_shr hm (j := 8) (by omega)) (ma 8) (I_shr hm (j := 13) (by omega)) (ma 13) e1 e2 e3 rfl ?_ ?_ ?_ e) (lw_200 hd hv1 S3 ha hb hr K)
      · rw [tv_I h]; exact I_nneg (by omega)
      · rw [tv_I (by omega)]; exact I_nneg (by omega)
      · rw [tv_I h, tv_I (by omega), I_lt (by omega) (by omega)]; omega
    · refine GD.by (fun _ e => p83_101_e (by omega) h6 (I_shr hm (j := 3) (by omega)) (ma 3) (I_shr hm (j := 8) (by omega)) (ma 8) (I_shr hm (j := 13) (by omega)) (ma 13) e1 e2 e3 rfl ?_ e) (lw_200 hd hv1 S3 ha hb hr K)
      rw [tv_m1.mpr (by omega)]; decide
  · exact GD.by (fun _ e => p83_101_f h6 e) (K _ S _ _ _ _ _ _ _ _ _ _ _ _ _ _ _ _)
/-- the turns -/
theorem lw_32 (hd : 9 ≤ d) (hE : E.1 ≤ 260) (h8 : n ≤ 8) : ∀ (m j : Nat) {w : Wd} {N : Nat → Nat} {D : DL} {v : Nat}, j + m = 24 → St w n N (2 ^ n - 1) D v → D.length ≤ j → v ≤ j + 1 → ∀ {u4 u5 u6 u7 u8 u9 u10 u11 u12 u13 u14 u15 u16 u17 u18 u19 : Value}, GD E d 32 [.ref 0, .ref 1, .int (I n), .int (I j), u4, u5, u6, u7, u8, u9, u10, u11, u12, u13, u14, u15, u16, u17, u18, u19] w
  | 0, j, w, N, D, v, hj, S, hD, hv1, u4, u5, u6, u7, u8, u9, u10, u11, u12, u13, u14, u15, u16, u17, u18, u19 => by
    obtain ⟨w1, e1, S1⟩ := op_hunt (E := E) (d := d - 1) (by omega) S (by omega)
    exact GD.by (fun _ e => p83_32_j (by omega) (fun z => by have := (I_lt (b := 24) (by omega) (by omega)).mp z; omega) e1 e) (lw_498 hd hE h8 (by omega) (by omega) S1)
  | m + 1, j, w, N, D, v, hj, S, hD, hv1, u4, u5, u6, u7, u8, u9, u10, u11, u12, u13, u14, u15, u16, u17, u18, u19 => by
    have hn1 := S.gw.n1
    have c1 : I j < (24 : Int32) := (I_lt (b := 24) (by omega) (by omega)).mpr (by omega)
    obtain ⟨xc, ec⟩ := op_cell (E := E) (w := w) (d := d - 1) (k := 1 + j) hE (by omega)
    obtain ⟨q, hq, eq⟩ := and_nn xc
    have ma := op_at (E := E) (w := w) (d := d - 1) (m := q) (k := n) hq (by omega) hn1
    have mb := op_at (E := E) (w := w) (d := d - 1) (m := q / 2 ^ 5) (k := n) (div_lt hq) (by omega) hn1
    have mc := op_at (E := E) (w := w) (d := d - 1) (m := q / 2 ^ 10) (k := 5) (div_lt hq) (by omega) (by omega)
    have ha : q / 2 % n < n := Nat.mod_lt _ (by omega)
    have hb : q / 2 ^ 5 / 2 % n < n := Nat.mod_lt _ (by omega)
    have s5 : ((xc &&& (2147483647 : Int32)) >>> ((5 : Int32) &&& 31)) = I (q / 2 ^ 5) := by rw [eq]; exact I_shr hq (j := 5) (by omega)
    have s10 : ((xc &&& (2147483647 : Int32)) >>> ((10 : Int32) &&& 31)) = I (q / 2 ^ 10) := by rw [eq]; exact I_shr hq (j := 10) (by omega)
    have go : ∀ {w1 : Wd} {N1 : Nat → Nat} {D1 : DL} {v1 : Nat}, St w1 n N1 (2 ^ n - 1) D1 v1 → D1.length ≤ j + 1 → v1 ≤ j + 2 → ∀ {x5 x6 : Int32} {u7 u8 u9 u10 u11 u12 u13 u14 u15 u16 u17 u18 u19 : Value}, GD E d 101 [.ref 0, .ref 1, .int (I n), .int (I j), .int (I q), .int x5, .int x6, u7, u8, u9, u10, u11, u12, u13, u14, u15, u16, u17, u18, u19] w1 := fun {w1 N1 D1 v1} S1 hD1 hv2 => lw_101 hd (by omega) S1 hq (fun w2 S2 x4 x5 x6 u7 u8 u9 u10 u11 u12 u13 u14 u15 u16 u17 u18 u19 => GD.by (fun _ e => p83_484_a (I_add j 1) e) (lw_32 hd hE h8 m (j + 1) (by omega) S2 hD1 (by omega)))
    by_cases hab : q / 2 % n = q / 2 ^ 5 / 2 % n
    · exact GD.by (fun _ e => p83_32_i (by omega) c1 (I_add 1 j) ec eq ma s5 mb (by rw [hab]) eq e) (go S (by omega) (by omega))
    · have c2 : ¬ I (q / 2 % n) = I (q / 2 ^ 5 / 2 % n) := fun z => hab ((I_inj (by omega) (by omega)).mp z)
      by_cases h0 : (0 : Int32) < I (q / 2 ^ 10 / 2 % 5)
      · obtain ⟨w1, x1, N1, D1, v1, e1, S1, hD1, hv2⟩ := op_door (E := E) (d := d - 1) (is := true) (by omega) S ha hb hab (by omega)
        exact GD.by (fun _ e => p83_32_d (by omega) c1 (I_add 1 j) ec eq ma s5 mb c2 s10 mc h0 e1 eq e) (go S1 (by omega) (by omega))
      · obtain ⟨w1, x1, N1, D1, v1, e1, S1, hD1, hv2⟩ := op_door (E := E) (d := d - 1) (is := false) (by omega) S ha hb hab (by omega)
        exact GD.by (fun _ e => p83_32_h (by omega) c1 (I_add 1 j) ec eq ma s5 mb c2 s10 mc h0 e1 eq e) (go S1 (by omega) (by omega))
theorem St_00 : St w00 1 (fun _ => 0) 1 [] 0 := by
  refine ⟨GW_zero (Nat.le_refl _) (by decide), by decide, Nat.zero_le _, ⟨⟨rfl, fun r => ?_⟩, rfl, rfl, rfl, trivial, Or.inl rfl, Or.inl rfl, Or.inl rfl⟩, rfl⟩
  unfold rv
  split <;> rfl
theorem lw_8 (hd : 9 ≤ d) (hE : E.1 ≤ 260) {u2 : Value} : GD E d 8 [.ref 0, .ref 1, jk, jk, jk, jk, jk, jk, jk, jk, jk, jk, jk, jk, jk, jk, jk, jk, jk, jk] w00 := by
  obtain ⟨xc, ec⟩ := op_cell (E := E) (w := w00) (d := d - 1) (k := 0) hE (by omega)
  obtain ⟨q, hq, eq⟩ := and_nn xc
  have ma := op_at (E := E) (w := w00) (d := d - 1) (m := q) (k := 8) hq (by omega) (by omega)
  have h8 : q / 2 % 8 < 8 := Nat.mod_lt _ (by omega)
  obtain ⟨w1, x1, e1, S1⟩ := op_rooms (E := E) (d := d - 1) (m := 1 + q / 2 % 8) (by omega) St_00 (by omega) (by omega)
  exact GD.by (fun _ e => p83_8_b (by omega) ec eq ma (I_add 1 _) e1 (I_add 1 _) e) (lw_32 hd hE (by omega) 24 0 (by omega) S1 (Nat.zero_le _) (by omega))
theorem cnt_hp : cnt (hp E w) = w.2.2.2 + 27 := rfl
theorem slt_hp : slt (hp E w) = 6 * w.2.2.2 + (E.1 + 2746) := by
  unfold slt hp
  simp only [List.map_cons, List.map_nil, List.sum_cons, List.sum_nil, osz, List.length_cons, List.length_nil]
  rfl
theorem law_ok : LawOK := by
  intro Ls xs hL
  obtain ⟨w2, h, e⟩ := lw_8 (E := (Ls, xs)) (d := 9) (by decide) hL (u2 := jk)
  refine ⟨hp (Ls, xs) w2, law_begin (by decide) (by rw [hz_last]; exact e), ?_, ?_⟩
  · rw [cnt_hp, h]
    decide
  · rw [slt_hp, h]
    show 6 * 0 + (Ls + 2746) ≤ 7301314
    omega
end
