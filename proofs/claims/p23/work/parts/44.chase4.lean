/-! THE CHASE, class: best steps, catching. -/
section
variable {E : Nat × (Nat → Int32)} {w : Wd} {d n : Nat} {N : Nat → Nat}
/-- a move's number -/
def nmv (x y : Nat) : Nat := if y = 9 then x else 10 * min x y + max x y
theorem nmv_le {x y : Nat} (hx : x < 9) (hy : y ≤ 9) : nmv x y ≤ 99 := by
  unfold nmv
  split
  · omega
  · omega
theorem sp19 {x y : Nat} (hx : x < 9) (hy : y ≤ 9) : Ev d 19 (ent0 19 [.int (I x), .int (I y)] (hp E w)) (.inl (some (.int (I (nmv x y)))), hp E w) := by
  unfold nmv
  by_cases h : y = 9
  · rw [if_pos h]
    exact p19_e_a (by rw [h]; rfl)
  · rw [if_neg h]
    refine p19_e_b (fun z => h ((I_inj (b := 9) (by omega) (by omega)).mp z)) ?_
    have h1 : (if I y < I x then I y else I x) = I (min x y) := by
      by_cases h2 : y < x
      · rw [if_pos ((I_lt (by omega) (by omega)).mpr h2), Nat.min_eq_right (by omega)]
      · rw [if_neg (fun z => h2 ((I_lt (by omega) (by omega)).mp z)), Nat.min_eq_left (by omega)]
    have h2 : (if I x < I y then I y else I x) = I (max x y) := by
      by_cases h2 : x < y
      · rw [if_pos ((I_lt (by omega) (by omega)).mpr h2), Nat.max_eq_right (by omega)]
      · rw [if_neg (fun z => h2 ((I_lt (by omega) (by omega)).mp z)), Nat.max_eq_left (by omega)]
    rw [h1, h2, show (10 : Int32) = I 10 from rfl, I_mul, I_add]
/-- a move that is a best one -/
def cand (n : Nat) (N : Nat → Nat) (a b r m : Nat) : Bool := nr N a (m / 10) && (nr N b (m % 10) && decide (rho n N (m / 10) (m % 10) r + 1 = tau n N a b r))
/-- the lowest number of a best move; 1000: none yet -/
def mnf (n : Nat) (N : Nat → Nat) (a b r : Nat) (M : Nat) : Nat := fl (fun m acc => if (cand n N a b r m && decide (nmv (m / 10) (m % 10) < acc)) = true then nmv (m / 10) (m % 10) else acc) M 1000
theorem mnf_succ (a b r M : Nat) : mnf n N a b r (M + 1) = if (cand n N a b r M && decide (nmv (M / 10) (M % 10) < mnf n N a b r M)) = true then nmv (M / 10) (M % 10) else mnf n N a b r M := rfl
theorem mnf_le (a b r : Nat) : ∀ M, mnf n N a b r M ≤ 1000
  | 0 => Nat.le_refl _
  | M + 1 => by
    have := mnf_le a b r M
    rw [mnf_succ]
    split
    · rename_i h
      rw [Bool.and_eq_true, decide_eq_true_eq] at h
      omega
    · exact this
theorem mnf_small {a b r : Nat} : ∀ {M m : Nat}, m < M → cand n N a b r m = true → mnf n N a b r M ≤ nmv (m / 10) (m % 10)
  | 0, m, hm, _ => by omega
  | M + 1, m, hm, hc => by
    rw [mnf_succ]
    by_cases e : m = M
    · subst e
      by_cases h : nmv (m / 10) (m % 10) < mnf n N a b r m
      · rw [if_pos (by rw [hc, decide_eq_true h]; rfl)]
        exact Nat.le_refl _
      · rw [if_neg (by rw [decide_eq_false h, Bool.and_false]; decide)]
        omega
    · have ih := mnf_small (a := a) (b := b) (r := r) (M := M) (m := m) (by omega) hc
      by_cases h : (cand n N a b r M && decide (nmv (M / 10) (M % 10) < mnf n N a b r M)) = true
      · rw [if_pos h]
        rw [Bool.and_eq_true, decide_eq_true_eq] at h
        omega
      · rw [if_neg h]; exact ih
/-- there is a best move -/
theorem cand_ex (G : GW n N) {a b r : Nat} (ha : a < n) (hb : pl n b) (h0 : 0 < tau n N a b r) (h9 : tau n N a b r < 99) : ∃ m, m < 10 * n ∧ cand n N a b r m = true := by
  have h1 := tau_yes (n := n) (N := N) (a := a) (b := b) (r := r) h9
  obtain ⟨t, ht⟩ : ∃ t, tau n N a b r = t + 1 := ⟨tau n N a b r - 1, by omega⟩
  rw [ht] at h1
  rcases wc_succ.mp h1 with h2 | ⟨x, hx, h2, y, hy, h3, h4⟩
  · have := (tau_zero (n := n) (N := N)).mpr h2; omega
  · refine ⟨x * 10 + y, by omega, ?_⟩
    unfold cand
    rw [show (x * 10 + y) / 10 = x by omega, show (x * 10 + y) % 10 = y by omega, h2, h3, Bool.true_and, Bool.true_and, decide_eq_true_eq, ht]
    have h5 := rho_le_of h4
    have h6 : ¬ rho n N x y r < t := fun z => by
      have h7 : wc n N (rho n N x y r + 1) a b r = true := wc_succ.mpr (Or.inr ⟨x, hx, h2, y, hy, h3, rho_yes (by omega)⟩)
      have := tau_le_of h7
      omega
    omega
theorem mnf_some (G : GW n N) {a b r : Nat} (ha : a < n) (hb : pl n b) (h0 : 0 < tau n N a b r) (h9 : tau n N a b r < 99) : mnf n N a b r (10 * n) ≤ 99 := by
  obtain ⟨m, hm, hc⟩ := cand_ex G ha hb h0 h9
  have h1 := mnf_small hm hc
  have hn := G.n9
  have h2 := nmv_le (x := m / 10) (y := m % 10) (by omega) (by omega)
  omega
/-- no move is better than a best one -/
theorem rho_ge {a b r x y : Nat} (hx : x < n) (hy : y < 10) (h1 : nr N a x = true) (h2 : nr N b y = true) (h9 : tau n N a b r < 99) : tau n N a b r ≤ rho n N x y r + 1 := by
  by_cases h3 : rho n N x y r < 99
  · exact tau_le_of (wc_succ.mpr (Or.inr ⟨x, hx, h1, y, hy, h2, rho_yes h3⟩))
  · omega
def stepV (n : Nat) (N : Nat → Nat) (a b r : Nat) : Int32 := if 0 < tau n N a b r ∧ tau n N a b r < 99 then I (mnf n N a b r (10 * n)) else -1
def bsS (n : Nat) (N : Nat → Nat) (a b r M : Nat) : Int32 := if mnf n N a b r M = 1000 then -1 else I (mnf n N a b r M)
def lsS (n : Nat) (N : Nat → Nat) (a b r M : Nat) : Int32 := if mnf n N a b r M = 1000 then I (tau n N a b r) else I (tau n N a b r - 1)
theorem sp18in (hd : 4 ≤ d) (hR : GR w n N) (hT : CT w n N) (G : GW n N) {a b r x : Nat} (ha : a < n) (hb : pl n b) (hr : r < n) (hx : x < n) (h0 : 0 < tau n N a b r) (h9 : tau n N a b r < 99) (o : Ou)
    (K : ∀ u v t : Value, Ev d 18 (23, [.ref 12, .ref 2, .int (I a), .int (I b), .int (I r), .int (bsS n N a b r ((x + 1) * 10)), .int (lsS n N a b r ((x + 1) * 10)), .int (I (x + 1)), u, v, t], [], hp E w) o) :
    ∀ (R y : Nat) (v t : Value), y + R = 10 → Ev d 18 (35, [.ref 12, .ref 2, .int (I a), .int (I b), .int (I r), .int (bsS n N a b r (x * 10 + y)), .int (lsS n N a b r (x * 10 + y)), .int (I x), .int (I y), v, t], [], hp E w) o
  | 0, y, v, t, hy => by
    have : y = 10 := by omega
    subst this
    have := K (.int (I 10)) v t
    rw [show (x + 1) * 10 = x * 10 + 10 by omega] at this
    exact p18_35_h nlt10 (I_add x 1) this
  | R + 1, y, v, t, hy => by
    have hn := G.n9
    have hb9 := pl9 hn hb
    have IH := fun v t => sp18in hd hR hT G ha hb hr hx h0 h9 o K R (y + 1) v t (by omega)
    have e0 := mnf_succ (n := n) (N := N) a b r (x * 10 + y)
    have hdx : (x * 10 + y) / 10 = x := by omega
    have hmy : (x * 10 + y) % 10 = y := by omega
    rw [hdx, hmy] at e0
    have h1 := sp48 (E := E) (d := d - 1) (by omega) hR G (show a ≤ 9 by omega) (show x ≤ 9 by omega)
    have h2 := sp48 (E := E) (d := d - 1) (by omega) hR G (show b ≤ 9 by omega) (show y ≤ 9 by omega)
    have same : cand n N a b r (x * 10 + y) = false → (bsS n N a b r (x * 10 + (y + 1)) = bsS n N a b r (x * 10 + y) ∧ lsS n N a b r (x * 10 + (y + 1)) = lsS n N a b r (x * 10 + y)) := fun hc => by
      rw [hc, Bool.false_and, if_neg (by decide)] at e0
      unfold bsS lsS
      rw [show x * 10 + (y + 1) = x * 10 + y + 1 by omega, e0]
      exact ⟨rfl, rfl⟩
    have hcand : cand n N a b r (x * 10 + y) = (nr N a x && (nr N b y && decide (rho n N x y r + 1 = tau n N a b r))) := by unfold cand; rw [hdx, hmy]
    cases q1 : nr N a x with
    | false =>
      rw [q1] at h1
      obtain ⟨s1, s2⟩ := same (by rw [hcand, q1, Bool.false_and])
      have := IH v t
      rw [s1, s2] at this
      exact p18_35_g (by omega) (lt10 (by omega)) h1 rfl (I_add y 1) this
    | true =>
      rw [q1] at h1
      cases q2 : nr N b y with
      | false =>
        rw [q2] at h2
        obtain ⟨s1, s2⟩ := same (by rw [hcand, q2, Bool.false_and, Bool.and_false])
        have := IH v t
        rw [s1, s2] at this
        exact p18_35_f (by omega) (lt10 (by omega)) h1 (by decide) h2 rfl (I_add y 1) this
      | true =>
        rw [q2] at h2
        have hy' : pl n y := pl_near G hb q2
        have h3 := sp17 (E := E) (d := d - 1) (by omega) hR hT G hx hy' hr
        have h4 := sp19 (E := E) (w := w) (d := d - 1) (show x < 9 by omega) (show y ≤ 9 by omega)
        have hnm := nmv_le (show x < 9 by omega) (show y ≤ 9 by omega)
        have hge := rho_ge (r := r) hx (by omega) q1 q2 h9
        have hml := mnf_le (n := n) (N := N) a b r (x * 10 + y)
        by_cases h5 : rho n N x y r < 99
        · rw [tv_I h5] at h3
          by_cases h6 : rho n N x y r + 1 = tau n N a b r
          · have hc : cand n N a b r (x * 10 + y) = true := by rw [hcand, q1, q2, decide_eq_true h6]; rfl
            rw [hc, Bool.true_and] at e0
            by_cases h7 : mnf n N a b r (x * 10 + y) = 1000
            · rw [if_pos (decide_eq_true (by omega))] at e0
              have s1 : bsS n N a b r (x * 10 + (y + 1)) = I (nmv x y) := by unfold bsS; rw [show x * 10 + (y + 1) = x * 10 + y + 1 by omega, e0, if_neg (by omega)]
              have s2 : lsS n N a b r (x * 10 + (y + 1)) = I (rho n N x y r) := by unfold lsS; rw [show x * 10 + (y + 1) = x * 10 + y + 1 by omega, e0, if_neg (by omega)]; congr 1; omega
              have s3 : lsS n N a b r (x * 10 + y) = I (tau n N a b r) := by unfold lsS; rw [if_pos h7]
              have := IH (.int (I (rho n N x y r))) (.int (I (nmv x y)))
              rw [s1, s2] at this
              exact p18_35_d (by omega) (lt10 (by omega)) h1 (by decide) h2 (by decide) h3 h4 (I_ne_m1 (by omega)) (by rw [s3]; exact (I_lt (by omega) (by omega)).mpr (by omega)) (I_add y 1) this
            · have s3 : lsS n N a b r (x * 10 + y) = I (rho n N x y r) := by unfold lsS; rw [if_neg h7]; congr 1; omega
              have s4 : bsS n N a b r (x * 10 + y) = I (mnf n N a b r (x * 10 + y)) := by unfold bsS; rw [if_neg h7]
              by_cases h8 : nmv x y < mnf n N a b r (x * 10 + y)
              · rw [if_pos (decide_eq_true h8)] at e0
                have s1 : bsS n N a b r (x * 10 + (y + 1)) = I (nmv x y) := by unfold bsS; rw [show x * 10 + (y + 1) = x * 10 + y + 1 by omega, e0, if_neg (by omega)]
                have s2 : lsS n N a b r (x * 10 + (y + 1)) = I (rho n N x y r) := by unfold lsS; rw [show x * 10 + (y + 1) = x * 10 + y + 1 by omega, e0, if_neg (by omega)]; congr 1; omega
                have := IH (.int (I (rho n N x y r))) (.int (I (nmv x y)))
                rw [s1, s2] at this
                exact p18_35_a (by omega) (lt10 (by omega)) h1 (by decide) h2 (by decide) h3 h4 (I_ne_m1 (by omega)) (by rw [s3, I_lt (by omega) (by omega)]; omega) (by rw [s3]) (by rw [s4]; exact (I_lt (by omega) (by omega)).mpr h8) (I_add y 1) this
              · rw [if_neg (by rw [decide_eq_false h8]; decide)] at e0
                have s1 : bsS n N a b r (x * 10 + (y + 1)) = bsS n N a b r (x * 10 + y) := by unfold bsS; rw [show x * 10 + (y + 1) = x * 10 + y + 1 by omega, e0]
                have s2 : lsS n N a b r (x * 10 + (y + 1)) = lsS n N a b r (x * 10 + y) := by unfold lsS; rw [show x * 10 + (y + 1) = x * 10 + y + 1 by omega, e0]
                have := IH (.int (I (rho n N x y r))) (.int (I (nmv x y)))
                rw [s1, s2] at this
                exact p18_35_b (by omega) (lt10 (by omega)) h1 (by decide) h2 (by decide) h3 h4 (I_ne_m1 (by omega)) (by rw [s3, I_lt (by omega) (by omega)]; omega) (by rw [s3]) (by rw [s4, I_lt (by omega) (by omega)]; exact h8) (I_add y 1) this
          · obtain ⟨s1, s2⟩ := same (by rw [hcand, decide_eq_false h6, Bool.and_false, Bool.and_false])
            have := IH (.int (I (rho n N x y r))) (.int (I (nmv x y)))
            rw [s1, s2] at this
            by_cases h7 : mnf n N a b r (x * 10 + y) = 1000
            · have s3 : lsS n N a b r (x * 10 + y) = I (tau n N a b r) := by unfold lsS; rw [if_pos h7]
              have s4 : bsS n N a b r (x * 10 + y) = -1 := by unfold bsS; rw [if_pos h7]
              by_cases h8 : rho n N x y r = tau n N a b r
              · exact p18_35_b (by omega) (lt10 (by omega)) h1 (by decide) h2 (by decide) h3 h4 (I_ne_m1 (by omega)) (by rw [s3, I_lt (by omega) (by omega)]; omega) (by rw [s3, h8]) (by rw [s4]; exact fun z => I_nneg (a := nmv x y) (by omega) (Int32.lt_trans z (by decide))) (I_add y 1) this
              · exact p18_35_c (by omega) (lt10 (by omega)) h1 (by decide) h2 (by decide) h3 h4 (I_ne_m1 (by omega)) (by rw [s3, I_lt (by omega) (by omega)]; omega) (by rw [s3]; exact fun z => h8 ((I_inj (by omega) (by omega)).mp z)) (I_add y 1) this
            · have s3 : lsS n N a b r (x * 10 + y) = I (tau n N a b r - 1) := by unfold lsS; rw [if_neg h7]
              exact p18_35_c (by omega) (lt10 (by omega)) h1 (by decide) h2 (by decide) h3 h4 (I_ne_m1 (by omega)) (by rw [s3, I_lt (by omega) (by omega)]; omega) (by rw [s3]; exact fun z => by have := (I_inj (by omega) (by omega)).mp z; omega) (I_add y 1) this
        · have h6 : ¬ rho n N x y r + 1 = tau n N a b r := by omega
          obtain ⟨s1, s2⟩ := same (by rw [hcand, decide_eq_false h6, Bool.and_false, Bool.and_false])
          have := IH (.int (tv (rho n N x y r))) (.int (I (nmv x y)))
          rw [s1, s2] at this
          exact p18_35_e (by omega) (lt10 (by omega)) h1 (by decide) h2 (by decide) h3 h4 (tv_m1.mpr (by omega)) (I_add y 1) this
theorem sp18 {a b r : Nat} (hd : 4 ≤ d) (hR : GR w n N) (hT : CT w n N) (G : GW n N) (ha : a < n) (hb : pl n b) (hr : r < n) : Ev d 18 (ent0 18 [.ref 12, .ref 2, .int (I a), .int (I b), .int (I r)] (hp E w)) (.inl (some (.int (stepV n N a b r))), hp E w) := by
  have hn := G.n9
  have h4 := sp16 (E := E) (d := d - 1) (by omega) hT G ha hb hr
  have htl := tau_le (n := n) (N := N) a b r
  unfold stepV
  by_cases h : 0 < tau n N a b r ∧ tau n N a b r < 99
  · rw [if_pos h]
    rw [tv_I h.2] at h4
    have hsm := mnf_some G ha hb h.1 h.2
    have key := down (n := n) (Q := fun j => ∀ u v t : Value, Ev d 18 (23, [.ref 12, .ref 2, .int (I a), .int (I b), .int (I r), .int (bsS n N a b r (j * 10)), .int (lsS n N a b r (j * 10)), .int (I j), u, v, t], [], hp E w) (.inl (some (.int (I (mnf n N a b r (10 * n))))), hp E w)) (fun j hj e u v t => ?_) (fun u v t => ?_) 0 (Nat.zero_le _)
    · exact p18_e_b (by omega) h4 ((I_lt (a := 0) (by omega) (by omega)).mpr h.1) (key _ _ _)
    · exact p18_23_a (by omega) (lt_n hR.1 hn hj) (sp18in hd hR hT G ha hb hr hj h.1 h.2 _ e 10 0 v t rfl)
    · have e1 : bsS n N a b r (n * 10) = I (mnf n N a b r (10 * n)) := by unfold bsS; rw [Nat.mul_comm n 10, if_neg (by omega)]
      rw [e1]
      exact p18_23_b (by omega) (nlt_n hR.1 hn (Nat.le_refl _) (by omega))
  · rw [if_neg h]
    refine p18_e_a (by omega) h4 ?_
    by_cases h0 : tau n N a b r = 0
    · rw [h0]; decide
    · have : tau n N a b r = 99 := by omega
      rw [this]; decide
/-- the robber's best room -/
def ctd (t : Nat) : Nat := if t < 99 then t else 1073741824
def awS (n : Nat) (N : Nat → Nat) (a b r : Nat) (j : Nat) : Nat × Nat := fl (fun x p => if (nr N r x && decide (p.2 < tau n N a b x + 1)) = true then (x, tau n N a b x + 1) else p) j (9, 0)
theorem awS_succ (a b r j : Nat) : awS n N a b r (j + 1) = if (nr N r j && decide ((awS n N a b r j).2 < tau n N a b j + 1)) = true then (j, tau n N a b j + 1) else awS n N a b r j := rfl
theorem awS_le (a b r : Nat) : ∀ j, (awS n N a b r j).2 ≤ 100
  | 0 => Nat.zero_le _
  | j + 1 => by
    have h1 := awS_le a b r j
    have h2 := tau_le (n := n) (N := N) a b j
    rw [awS_succ]
    split
    · show tau n N a b j + 1 ≤ 100; omega
    · exact h1
def awayV (n : Nat) (N : Nat → Nat) (a b r : Nat) : Int32 := if a = r ∨ b = r then -1 else if (awS n N a b r n).2 = 0 then -1 else I (awS n N a b r n).1
def awB (p : Nat × Nat) : Int32 := if p.2 = 0 then -1 else I p.1
def awL (p : Nat × Nat) : Int32 := if p.2 = 0 then -1 else I (ctd (p.2 - 1))
theorem ctd_le (t : Nat) : ctd t ≤ 1073741824 := by unfold ctd; split <;> omega
theorem ctd_lt {s t : Nat} (hs : s ≤ 99) (ht : t ≤ 99) : ctd s < ctd t ↔ s < t := by unfold ctd; split <;> split <;> omega
theorem awL_lt {p : Nat × Nat} {t : Nat} (hp2 : p.2 ≤ 100) (ht : t ≤ 99) : awL p < I (ctd t) ↔ p.2 < t + 1 := by
  have h1 := ctd_le t
  have h2 := ctd_le (p.2 - 1)
  unfold awL
  by_cases h0 : p.2 = 0
  · rw [if_pos h0]
    constructor
    · intro _; omega
    · intro _
      refine Int32.lt_of_lt_of_le (show (-1 : Int32) < 0 by decide) (Int32.not_lt.mp (I_nneg (by omega)))
  · rw [if_neg h0, I_lt (by omega) (by omega), ctd_lt (by omega) ht]
    omega
theorem sp20 {a b r : Nat} (hd : 3 ≤ d) (hR : GR w n N) (hT : CT w n N) (G : GW n N) (ha : a < n) (hb : pl n b) (hr : r < n) : Ev d 20 (ent0 20 [.ref 12, .ref 2, .int (I a), .int (I b), .int (I r)] (hp E w)) (.inl (some (.int (awayV n N a b r))), hp E w) := by
  have hn := G.n9
  have hb9 := pl9 hn hb
  unfold awayV
  by_cases h1 : r = a
  · rw [if_pos (Or.inl h1.symm)]
    exact p20_e_c (by rw [h1])
  · have h1' : ¬ I r = I a := fun z => h1 ((I_inj (by omega) (by omega)).mp z)
    by_cases h2 : r = b
    · rw [if_pos (Or.inr h2.symm)]
      exact p20_e_a h1' (by rw [h2])
    · have h2' : ¬ I r = I b := fun z => h2 ((I_inj (by omega) (by omega)).mp z)
      rw [if_neg (fun z => by rcases z with z | z <;> omega)]
      have key := down (n := n) (Q := fun j => ∀ u v : Value, Ev d 20 (23, [.ref 12, .ref 2, .int (I a), .int (I b), .int (I r), .int (awB (awS n N a b r j)), .int (awL (awS n N a b r j)), .int (I j), u, v], [], hp E w) (.inl (some (.int (awB (awS n N a b r n)))), hp E w)) (fun j hj e u v => ?_) (fun u v => ?_) 0 (Nat.zero_le _)
      · exact p20_e_b h1' h2' (key _ _)
      · have h3 := sp48 (E := E) (d := d - 1) (by omega) hR G (show r ≤ 9 by omega) (show j ≤ 9 by omega)
        have h4 := sp16 (E := E) (d := d - 1) (by omega) hT G ha hb hj
        have htl := tau_le (n := n) (N := N) a b j
        have hal := awS_le (n := n) (N := N) a b r j
        have hlt := awL_lt hal htl
        rw [awS_succ] at e
        cases hq : nr N r j with
        | false =>
          rw [hq] at h3
          rw [hq, Bool.false_and, if_neg (by decide)] at e
          exact p20_23_e (by omega) (lt_n hR.1 hn hj) h3 rfl (I_add j 1) (e _ _)
        | true =>
          rw [hq] at h3
          rw [hq, Bool.true_and] at e
          have hL : awL (j, tau n N a b j + 1) = I (ctd (tau n N a b j)) := by
            unfold awL
            rw [if_neg (show ¬ tau n N a b j + 1 = 0 by omega)]
            rfl
          have hB : awB (j, tau n N a b j + 1) = I j := by
            unfold awB
            rw [if_neg (show ¬ tau n N a b j + 1 = 0 by omega)]
          by_cases h5 : tau n N a b j < 99
          · rw [tv_I h5] at h4
            have hc5 : ctd (tau n N a b j) = tau n N a b j := by unfold ctd; rw [if_pos h5]
            rw [hc5] at hlt hL
            by_cases h6 : (awS n N a b r j).2 < tau n N a b j + 1
            · rw [if_pos (decide_eq_true h6), hL, hB] at e
              exact p20_23_c (by omega) (lt_n hR.1 hn hj) h3 (by decide) h4 (I_ne_m1 (by omega)) (hlt.mpr h6) (I_add j 1) (e _ _)
            · rw [if_neg (by rw [decide_eq_false h6]; decide)] at e
              exact p20_23_d (by omega) (lt_n hR.1 hn hj) h3 (by decide) h4 (I_ne_m1 (by omega)) (fun z => h6 (hlt.mp z)) (I_add j 1) (e _ _)
          · have hc5 : ctd (tau n N a b j) = 1073741824 := by unfold ctd; rw [if_neg h5]
            rw [hc5] at hlt hL
            have h7 : tv (tau n N a b j) = -1 := tv_m1.mpr (by omega)
            rw [h7] at h4
            by_cases h6 : (awS n N a b r j).2 < tau n N a b j + 1
            · rw [if_pos (decide_eq_true h6), hL, hB] at e
              exact p20_23_a (by omega) (lt_n hR.1 hn hj) h3 (by decide) h4 rfl (hlt.mpr h6) (I_add j 1) (e _ _)
            · rw [if_neg (by rw [decide_eq_false h6]; decide)] at e
              exact p20_23_b (by omega) (lt_n hR.1 hn hj) h3 (by decide) h4 rfl (fun z => h6 (hlt.mp z)) (I_add j 1) (e _ _)
      · exact p20_23_f (by omega) (nlt_n hR.1 hn (Nat.le_refl _) (by omega))
/-- do they catch, the second one beginning in b -/
def cfB (n : Nat) (N : Nat → Nat) (b : Nat) : Bool := anyB n (fun a => decide (setB n (fun r => decide (tau n N a b r < 99)) = 2 ^ n - 1))
theorem sp23 {b : Nat} (hd : 3 ≤ d) (hR : GR w n N) (hT : CT w n N) (G : GW n N) (hb : pl n b) : Ev d 23 (ent0 23 [.ref 12, .ref 2, .int (I b)] (hp E w)) (.inl (some (.int (bI (cfB n N b)))), hp E w) := by
  have hn := G.n9
  have hb9 := pl9 hn hb
  have h512 := two_pow_le hn
  have key := down (n := n) (Q := fun j => (∀ a, a < j → decide (setB n (fun r => decide (tau n N a b r < 99)) = 2 ^ n - 1) = false) → Ev d 23 (2, [.ref 12, .ref 2, .int (I b), .int (I j)], [], hp E w) (.inl (some (.int (bI (cfB n N b)))), hp E w)) (fun j hj e hno => ?_) (fun hno => ?_) 0 (Nat.zero_le _)
  · exact p23_e_a (key (fun a ha => by omega))
  · have hprl := pr_lt (show j < 9 by omega) hb9
    have hv : rv 90 (gA w 5) (pr j b) = I (setB n (fun r => decide (tau n N j b r < 99))) := by rw [rv_in hprl]; exact hT.2 j b hj hb
    have hs := set512 (p := fun r => decide (tau n N j b r < 99)) hn
    by_cases h : setB n (fun r => decide (tau n N j b r < 99)) = 2 ^ n - 1
    · rw [show cfB n N b = true from anyB_iff.mpr ⟨j, hj, decide_eq_true h⟩]
      exact p23_2_a (by omega) (lt_n hR.1 hn hj) (I_pr j b) (by omega) (sp42 hR G) (by rw [hv, h])
    · refine p23_2_b (by omega) (lt_n hR.1 hn hj) (I_pr j b) (by omega) (sp42 hR G) (by rw [hv]; exact fun z => h ((I_inj (by omega) (by omega)).mp z)) (I_add j 1) (e (fun a ha => ?_))
      by_cases e1 : a = j
      · subst e1; exact decide_eq_false h
      · exact hno a (by omega)
  · rw [show cfB n N b = false from anyB_false.mpr hno]
    exact p23_2_c (by omega) (nlt_n hR.1 hn (Nat.le_refl _) (by omega))
def twB (n : Nat) (N : Nat → Nat) : Bool := anyB n (fun b => cfB n N b)
theorem sp21 (hd : 4 ≤ d) (hR : GR w n N) (hT : CT w n N) (G : GW n N) : Ev d 21 (ent0 21 [.ref 12, .ref 2] (hp E w)) (.inl (some (.int (bI (cfB n N 9)))), hp E w) :=
  p21_e_a (by omega) (sp23 (b := 9) (by omega) hR hT G (Or.inr rfl)) (bI_and _)
theorem sp22 (hd : 4 ≤ d) (hR : GR w n N) (hT : CT w n N) (G : GW n N) : Ev d 22 (ent0 22 [.ref 12, .ref 2] (hp E w)) (.inl (some (.int (bI (twB n N)))), hp E w) := by
  have hn := G.n9
  have key := down (n := n) (Q := fun j => (∀ b, b < j → cfB n N b = false) → Ev d 22 (2, [.ref 12, .ref 2, .int (I j)], [], hp E w) (.inl (some (.int (bI (twB n N)))), hp E w)) (fun j hj e hno => ?_) (fun hno => ?_) 0 (Nat.zero_le _)
  · exact p22_e_a (key (fun a ha => by omega))
  · have h1 := sp23 (E := E) (d := d - 1) (by omega) hR hT G (b := j) (Or.inl hj)
    cases h : cfB n N j with
    | true =>
      rw [h] at h1
      rw [show twB n N = true from anyB_iff.mpr ⟨j, hj, h⟩]
      exact p22_2_a (by omega) (lt_n hR.1 hn hj) h1 (by decide)
    | false =>
      rw [h] at h1
      refine p22_2_b (by omega) (lt_n hR.1 hn hj) h1 rfl (I_add j 1) (e (fun b hb => ?_))
      by_cases e1 : b = j
      · subst e1; exact h
      · exact hno b (by omega)
  · rw [show twB n N = false from anyB_false.mpr hno]
    exact p22_2_c (by omega) (nlt_n hR.1 hn (Nat.le_refl _) (by omega))
end
