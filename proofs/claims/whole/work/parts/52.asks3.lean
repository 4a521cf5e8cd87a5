/-! THE CHASE, reference: step. -/
section
variable {E : Nat × (Nat → Int32)} {w : Wd} {d n : Nat} {N : Nat → Nat}
theorem step_from {x2 : Int32} {a b r fb lb : Nat} (hd : 2 ≤ d) (hR : MR w n N) (G : GW n N) (hF : FL w n N fb lb) (hg : RG n N fb lb) (hb1 : fb ≤ b) (hb2 : b ≤ lb) (ha : a < n) (hr : r < n) (h0 : 0 < tau n N a b r) : Ev d 122 (84, [.ref 27, .int (I a), .int x2, .int (I r), .int (I b), .int (I (tau n N a b r)), .int (I 1000), .int (I 0), jk, jk, jk], [], hp E w) (.inl (some (.int (I (mnf n N a b r (10 * n))))), hp E w) := by
  have hn := G.n9
  obtain ⟨g1, g2, g3, g4⟩ := hg
  have hb9 : b ≤ 9 := by omega
  have t9 := tau_le (n := n) (N := N) a b r
  have key := down (n := n) (Q := fun x => ∀ u8 u9 u10, Ev d 122 (84, [.ref 27, .int (I a), .int x2, .int (I r), .int (I b), .int (I (tau n N a b r)), .int (I (mnf n N a b r (10 * x))), .int (I x), u8, u9, u10], [], hp E w) (.inl (some (.int (I (mnf n N a b r (10 * n))))), hp E w)) (fun x hx e u8 u9 u10 => ?_) (fun u8 u9 u10 => ?_) 0 (Nat.zero_le _)
  · exact key _ _ _
  · have k2 := down (n := 10) (Q := fun y => ∀ u9 u10, Ev d 122 (96, [.ref 27, .int (I a), .int x2, .int (I r), .int (I b), .int (I (tau n N a b r)), .int (I (mnf n N a b r (10 * x + y))), .int (I x), .int (I y), u9, u10], [], hp E w) (.inl (some (.int (I (mnf n N a b r (10 * n))))), hp E w)) (fun y hy e2 u9 u10 => ?_) (fun u9 u10 => ?_) 0 (by decide)
    · exact p122_84_a (lt_n hR.1 hn hx) (k2 _ _)
    · have q1 := sp114 (E := E) (w := w) (d := d - 1) hR G (a := a) (b := x) (by omega) (by omega)
      have q2 := sp115 (E := E) (w := w) (d := d - 1) (by omega) hR G hb9 (show y ≤ 9 by omega)
      have c9 : ¬ (9 : Int32) < I y := fun z => by have := (I_lt (a := 9) (by omega) (by omega)).mp z; omega
      have em : mnf n N a b r (10 * x + (y + 1)) = if ((nr N a x && (nr N b y && decide (rho n N x y r + 1 = tau n N a b r))) && decide (nmv x y < mnf n N a b r (10 * x + y))) = true then nmv x y else mnf n N a b r (10 * x + y) := by
        rw [show 10 * x + (y + 1) = (10 * x + y) + 1 by omega, mnf_succ]
        unfold cand
        rw [show (10 * x + y) / 10 = x by omega, show (10 * x + y) % 10 = y by omega]
      have hml := mnf_le (n := n) (N := N) a b r (10 * x + y)
      -- not taken
      have skip : ∀ u10, (nr N a x && nr N b y) = false → Ev d 122 (147, [.ref 27, .int (I a), .int x2, .int (I r), .int (I b), .int (I (tau n N a b r)), .int (I (mnf n N a b r (10 * x + y))), .int (I x), .int (I y), .int 0, u10], [], hp E w) (.inl (some (.int (I (mnf n N a b r (10 * n))))), hp E w) := fun u10 hq => by
        rw [← Bool.and_assoc, hq, Bool.false_and, Bool.false_and, if_neg (by decide)] at em
        rw [em] at e2
        exact p122_147_e rfl (I_add y 1) (e2 _ _)
      have last : ∀ z, z = nmv x y → z ≤ 99 → rho n N x y r + 1 = tau n N a b r → nr N a x = true → nr N b y = true → Ev d 122 (212, [.ref 27, .int (I a), .int x2, .int (I r), .int (I b), .int (I (tau n N a b r)), .int (I (mnf n N a b r (10 * x + y))), .int (I x), .int (I y), .int 1, .int (I z)], [], hp E w) (.inl (some (.int (I (mnf n N a b r (10 * n))))), hp E w) := fun z hz hz9 hc n1 n2 => by
        rw [n1, n2, decide_eq_true hc, Bool.true_and, Bool.true_and, Bool.true_and, ← hz] at em
        by_cases h6 : z < mnf n N a b r (10 * x + y)
        · rw [if_pos (decide_eq_true h6)] at em
          rw [em] at e2
          exact p122_212_a ((I_lt (by omega) (by omega)).mpr h6) (I_add y 1) (e2 _ _)
        · rw [if_neg (by rw [decide_eq_false h6]; decide)] at em
          rw [em] at e2
          exact p122_212_b (by rw [I_lt (by omega) (by omega)]; exact h6) (I_add y 1) (e2 _ _)
      have take : ∀ u10, nr N a x = true → nr N b y = true → Ev d 122 (147, [.ref 27, .int (I a), .int x2, .int (I r), .int (I b), .int (I (tau n N a b r)), .int (I (mnf n N a b r (10 * x + y))), .int (I x), .int (I y), .int 1, u10], [], hp E w) (.inl (some (.int (I (mnf n N a b r (10 * n))))), hp E w) := fun u10 n1 n2 => by
        have hy2 := g3 b y hb1 hb2 hy n2
        have hci := cl_lt (show x < 9 by omega) (show y ≤ 9 by omega) (show r < 9 by omega)
        have hv := (hF x y r hx hy2.1 hy2.2 hr).2
        have r9 := rho_le (n := n) (N := N) x y r
        have es : I (tau n N a b r) - (1 : Int32) = I (tau n N a b r - 1) := I_sub (b := 1) (by omega)
        by_cases hc : rho n N x y r + 1 = tau n N a b r
        · have d2 : gA w 16 (cl x y r) = I (tau n N a b r) - (1 : Int32) := by rw [hv, es]; congr 1; omega
          have hx9 := nmv_le (x := x) (y := y) (by omega) (by omega)
          by_cases h9 : y = 9
          · exact p122_147_a (by omega) (by decide) (I_cl x y r) hci d2 (by rw [h9]; rfl) (last x (by unfold nmv; rw [if_pos h9]) (by omega) hc n1 n2)
          · have d3 : ¬ I y = (9 : Int32) := fun z => h9 ((I_inj (b := 9) (by omega) (by omega)).mp z)
            by_cases hlt : x < y
            · have en : 10 * x + y = nmv x y := by unfold nmv; rw [if_neg h9, Nat.min_eq_left (by omega), Nat.max_eq_right (by omega)]
              refine p122_147_b (by omega) (by decide) (I_cl x y r) hci d2 d3 ((I_lt (by omega) (by omega)).mpr hlt) ?_ (last (10 * x + y) en (by omega) hc n1 n2)
              rw [show (10 : Int32) = I 10 from rfl, I_mul, I_add]
            · have en : 10 * y + x = nmv x y := by unfold nmv; rw [if_neg h9, Nat.min_eq_right (by omega), Nat.max_eq_left (by omega)]
              refine p122_147_c (by omega) (by decide) (I_cl x y r) hci d2 d3 (by rw [I_lt (by omega) (by omega)]; exact hlt) ?_ (last (10 * y + x) en (by omega) hc n1 n2)
              rw [show (10 : Int32) = I 10 from rfl, I_mul, I_add]
        · have d2 : ¬ gA w 16 (cl x y r) = I (tau n N a b r) - (1 : Int32) := by
            rw [hv, es, I_inj (by omega) (by omega)]; omega
          rw [n1, n2, decide_eq_false hc, Bool.true_and, Bool.true_and, Bool.false_and, if_neg (by decide)] at em
          rw [em] at e2
          exact p122_147_d (by omega) (by decide) (I_cl x y r) hci d2 (I_add y 1) (e2 _ _)
      cases n1 : nr N a x with
      | false =>
        rw [n1] at q1
        exact p122_96_f (by omega) c9 q1 rfl (skip _ (by rw [n1]; rfl))
      | true =>
        rw [n1] at q1
        by_cases hyn : y < n
        · have d1 := lt_n hR.1 hn hyn
          cases n2 : nr N b y with
          | false =>
            rw [n2] at q2
            exact p122_96_e (by omega) c9 q1 (by decide) d1 q2 rfl (skip _ (by rw [n1, n2]; rfl))
          | true =>
            rw [n2] at q2
            exact p122_96_d (by omega) c9 q1 (by decide) d1 q2 (by decide) (take _ n1 n2)
        · have d1 := nlt_n hR.1 hn (show n ≤ y by omega) (show y ≤ 100 by omega)
          by_cases h9 : y = 9
          · have d2 : I y = (9 : Int32) := by rw [h9]; rfl
            cases n2 : nr N b y with
            | false =>
              rw [n2] at q2
              exact p122_96_b (by omega) c9 q1 (by decide) d1 d2 q2 rfl (skip _ (by rw [n1, n2]; rfl))
            | true =>
              rw [n2] at q2
              exact p122_96_a (by omega) c9 q1 (by decide) d1 d2 q2 (by decide) (take _ n1 n2)
          · have d2 : ¬ I y = (9 : Int32) := fun z => h9 ((I_inj (b := 9) (by omega) (by omega)).mp z)
            have n2 : nr N b y = false := by
              cases n2 : nr N b y with
              | false => rfl
              | true => rcases pl_near G (g4 b hb1 hb2) n2 with g | g <;> omega
            exact p122_96_c (by omega) c9 q1 (by decide) d1 d2 (skip _ (by rw [n1, n2]; rfl))
    · exact p122_96_g (by decide) (I_add x 1) (e _ _ _)
  · exact p122_84_b (nlt_n hR.1 hn (Nat.le_refl _) (by omega))
theorem sp122 {x : Int32} {a b r : Nat} (hd : 4 ≤ d) (hR : MR w n N) (G : GW n N) (ha : a < n) (hb : PB n x b) (hr : r < n) (hq : areR n (I a) x (I r) = true) : ∃ f g, Ev d 122 (ent0 122 [.ref 27, .int (I a), .int x, .int (I r)] (hp E w)) (.inl (some (.int (stepV n N a b r))), hp E (tw f g (sF 8 0 w))) := by
  have hn := G.n9
  have h0 := sp119 (E := E) (w := sF 8 0 w) (d := d - 1) (a := I a) (b := x) (c := I r) (by omega) hR
  rw [hq] at h0
  obtain ⟨f, g, fb, lb, e1, e2, hF, hg, hb1, hb2⟩ := sp118p (E := E) (w := sF 8 0 w) (d := d - 1) (by omega) (MR0 hR) G hb
  refine ⟨f, g, ?_⟩
  have hv := (hF a b r ha hb1 hb2 hr).1
  have hci := cl_lt (show a < 9 by omega) (pl9 hn hb.pl) (show r < 9 by omega)
  have t9 := tau_le (n := n) (N := N) a b r
  have hRW : MR (tw f g (sF 8 0 w)) n N := hR
  have loop := fun h => step_from (E := E) (x2 := x) (d := d) (by omega) hRW G hF hg hb1 hb2 ha hr h
  have z0 : tau n N a b r = 0 → gA (tw f g (sF 8 0 w)) 15 (cl a b r) = 0 := fun h => by rw [hv, h]; rfl
  have z0' : ¬ tau n N a b r = 0 → ¬ gA (tw f g (sF 8 0 w)) 15 (cl a b r) = 0 := fun h => by
    rw [hv]; exact fun z => h ((I_inj (b := 0) (by omega) (by decide)).mp z)
  have z9 : tau n N a b r = 99 → gA (tw f g (sF 8 0 w)) 15 (cl a b r) = 99 := fun h => by rw [hv, h]; rfl
  have z9' : ¬ tau n N a b r = 99 → ¬ gA (tw f g (sF 8 0 w)) 15 (cl a b r) = 99 := fun h => by
    rw [hv]; exact fun z => h ((I_inj (b := 99) (by omega) (by decide)).mp z)
  unfold stepV
  rcases hb with ⟨c1, c2⟩ | ⟨c1, c2, c3⟩
  · subst c2
    by_cases h1 : tau n N a 9 r = 0
    · rw [if_neg (by omega)]
      exact p122_e_d (by omega) h0 (by decide) c1 (e1 c1) c1 (I_cl a 9 r) hci (z0 h1)
    · by_cases h2 : tau n N a 9 r = 99
      · rw [if_neg (by omega)]
        exact p122_e_b (by omega) h0 (by decide) c1 (e1 c1) c1 (I_cl a 9 r) hci (z0' h1) (z9 h2)
      · rw [if_pos (by omega)]
        exact p122_e_c (by omega) h0 (by decide) c1 (e1 c1) c1 (I_cl a 9 r) hci (z0' h1) (z9' h2) hv (loop (by omega))
  · have gi : ((((I a * (10 : Int32)) + x) * (9 : Int32)) + I r) = I (cl a b r) := by rw [c1]; exact I_cl a b r
    by_cases h1 : tau n N a b r = 0
    · rw [if_neg (by omega)]
      exact p122_e_m (by omega) h0 (by decide) c3 (e2 c3) c3 gi hci (z0 h1)
    · by_cases h2 : tau n N a b r = 99
      · rw [if_neg (by omega)]
        exact p122_e_k (by omega) h0 (by decide) c3 (e2 c3) c3 gi hci (z0' h1) (z9 h2)
      · rw [if_pos (by omega)]
        have := loop (by omega)
        rw [← c1] at this
        exact p122_e_l (by omega) h0 (by decide) c3 (e2 c3) c3 gi hci (z0' h1) (z9' h2) hv this
end
