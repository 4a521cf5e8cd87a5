/-! THE CHASE, class: played out. -/
section
variable {E : Nat × (Nat → Int32)} {w : Wd} {n : Nat} {N : Nat → Nat}
/-- some move after which the robber is lost -/
def smB (n : Nat) (N : Nat → Nat) (k a b r : Nat) : Bool := anyB n (fun x => nr N a x && anyB 10 (fun y => nr N b y && rbB n N (wc n N k) x y r))
theorem wc_sm {k a b r : Nat} : wc n N (k + 1) a b r = (ctB a b r || smB n N k a b r) := rfl
theorem sm_near (G : GW n N) {k a b r : Nat} (ha : a < n) (hb : b ≤ 9) (h : nr N a r = true ∨ nr N b r = true) (hr : r < n) : wc n N (k + 1) a b r = true := by
  have hn := G.n9
  rcases h with h | h
  · exact wc_succ.mpr (Or.inr ⟨r, hr, h, b, by omega, nr_self N b, rb_iff.mpr (Or.inl (Or.inl rfl))⟩)
  · exact wc_succ.mpr (Or.inr ⟨a, ha, nr_self N a, r, by omega, h, rb_iff.mpr (Or.inl (Or.inr rfl))⟩)
theorem wc1_far {a b r : Nat} (hr : r < n) (h1 : nr N a r = false) (h2 : nr N b r = false) : wc n N 1 a b r = false := by
  cases h : wc n N 1 a b r with
  | false => rfl
  | true =>
    exfalso
    rcases wc_succ.mp h with h3 | ⟨x, hx, h3, y, hy, h4, h5⟩
    · rcases h3 with rfl | rfl
      · rw [nr_self] at h1; cases h1
      · rw [nr_self] at h2; cases h2
    · have h6 : x = r ∨ y = r := by
        rcases rb_iff.mp h5 with h6 | h6
        · exact h6
        · exact ct_iff.mp (h6 r hr (nr_self N r))
      rcases h6 with rfl | rfl
      · rw [h3] at h1; cases h1
      · rw [h4] at h2; cases h2
theorem sp61 (hR : GR w n N) (G : GW n N) {k a b r d : Nat} (hd : 2 ≤ d) (K : ∀ z, z < n → Ev (d - 1) 59 (ent0 59 [.ref 2, .int (I a), .int (I b), .int (I z), .int (I k)] (hp E w)) (.inl (some (.int (bI (wc n N k a b z)))), hp E w)) (ha : a < n) (hb : pl n b) (hr : r < n) : Ev d 61 (ent0 61 [.ref 2, .int (I a), .int (I b), .int (I r), .int (I k)] (hp E w)) (.inl (some (.int (bI (rbB n N (wc n N k) a b r)))), hp E w) := by
  have hn := G.n9
  have hb9 := pl9 hn hb
  by_cases h1 : r = a
  · rw [show rbB n N (wc n N k) a b r = true from rb_iff.mpr (Or.inl (Or.inl h1.symm))]
    exact p61_e_c (by rw [h1])
  · have h1' : ¬ I r = I a := fun z => h1 ((I_inj (by omega) (by omega)).mp z)
    by_cases h2 : r = b
    · rw [show rbB n N (wc n N k) a b r = true from rb_iff.mpr (Or.inl (Or.inr h2.symm))]
      exact p61_e_a h1' (by rw [h2])
    · have h2' : ¬ I r = I b := fun z => h2 ((I_inj (by omega) (by omega)).mp z)
      have key := down (n := n) (Q := fun j => (∀ x, x < j → nr N r x = true → wc n N k a b x = true) → Ev d 61 (15, [.ref 2, .int (I a), .int (I b), .int (I r), .int (I k), .int (I j)], [], hp E w) (.inl (some (.int (bI (rbB n N (wc n N k) a b r)))), hp E w)) (fun j hj e hyes => ?_) (fun hyes => ?_) 0 (Nat.zero_le _)
      · exact p61_e_b h1' h2' (key (fun x hx => by omega))
      · have h3 := sp52 (E := E) (d := d - 1) (by omega) hR G (show r ≤ 9 by omega) (show j ≤ 9 by omega)
        have h4 := K j hj
        cases hq : nr N r j with
        | false =>
          rw [hq] at h3
          refine p61_15_c (by omega) (lt_n hR.1 hn hj) h3 rfl (I_add j 1) (e (fun x hx hnx => ?_))
          by_cases e1 : x = j
          · subst e1; rw [hq] at hnx; cases hnx
          · exact hyes x (by omega) hnx
        | true =>
          rw [hq] at h3
          cases hw : wc n N k a b j with
          | true =>
            rw [hw] at h4
            refine p61_15_b (by omega) (lt_n hR.1 hn hj) h3 (by decide) h4 (by decide) (I_add j 1) (e (fun x hx hnx => ?_))
            by_cases e1 : x = j
            · subst e1; exact hw
            · exact hyes x (by omega) hnx
          | false =>
            rw [hw] at h4
            have hf : rbB n N (wc n N k) a b r = false := by
              cases hh : rbB n N (wc n N k) a b r with
              | false => rfl
              | true =>
                rcases rb_iff.mp hh with h5 | h5
                · rcases h5 with h5 | h5 <;> omega
                · rw [h5 j hj hq] at hw; cases hw
            rw [hf]
            exact p61_15_a (by omega) (lt_n hR.1 hn hj) h3 (by decide) h4 rfl
      · rw [show rbB n N (wc n N k) a b r = true from rb_iff.mpr (Or.inr hyes)]
        exact p61_15_d (by omega) (nlt_n hR.1 hn (Nat.le_refl _) (by omega))
theorem sp60 (hR : GR w n N) (G : GW n N) {k a b r d : Nat} (hd : 3 ≤ d) (K : ∀ x y, x < n → pl n y → Ev (d - 1) 61 (ent0 61 [.ref 2, .int (I x), .int (I y), .int (I r), .int (I k)] (hp E w)) (.inl (some (.int (bI (rbB n N (wc n N k) x y r)))), hp E w)) (ha : a < n) (hb : pl n b) (hr : r < n) : Ev d 60 (ent0 60 [.ref 2, .int (I a), .int (I b), .int (I r), .int (I (k + 1))] (hp E w)) (.inl (some (.int (bI (smB n N k a b r)))), hp E w) := by
  have hn := G.n9
  have hb9 := pl9 hn hb
  have hsub : I (k + 1) - (1 : Int32) = I k := by rw [show (1 : Int32) = I 1 from rfl, I_sub (by omega)]; rfl
  have key := down (n := n) (Q := fun x => (∀ x', x' < x → (nr N a x' && anyB 10 (fun y => nr N b y && rbB n N (wc n N k) x' y r)) = false) → ∀ u v, Ev d 60 (3, [.ref 2, .int (I a), .int (I b), .int (I r), .int (I (k + 1)), .int (I x), u, v], [], hp E w) (.inl (some (.int (bI (smB n N k a b r)))), hp E w)) (fun x hx e hno u v => ?_) (fun hno u v => ?_) 0 (Nat.zero_le _)
  · exact p60_e_a (key (fun x hx => by omega) _ _)
  · have h1 := sp52 (E := E) (d := d - 1) (by omega) hR G (show a ≤ 9 by omega) (show x ≤ 9 by omega)
    have in1 := down (n := 10) (Q := fun y => (∀ y', y' < y → (nr N a x && (nr N b y' && rbB n N (wc n N k) x y' r)) = false) → ∀ v, Ev d 60 (15, [.ref 2, .int (I a), .int (I b), .int (I r), .int (I (k + 1)), .int (I x), .int (I y), v], [], hp E w) (.inl (some (.int (bI (smB n N k a b r)))), hp E w)) (fun y hy e2 hno2 v => ?_) (fun hno2 v => ?_) 0 (by decide)
    · exact p60_3_a (by omega) (lt_n hR.1 hn hx) (in1 (fun y hy => by omega) _)
    · have h2 := sp52 (E := E) (d := d - 1) (by omega) hR G (show b ≤ 9 by omega) (show y ≤ 9 by omega)
      have go : (nr N a x && (nr N b y && rbB n N (wc n N k) x y r)) = false → ∀ v, Ev d 60 (15, [.ref 2, .int (I a), .int (I b), .int (I r), .int (I (k + 1)), .int (I x), .int (I (y + 1)), v], [], hp E w) (.inl (some (.int (bI (smB n N k a b r)))), hp E w) := fun hq => e2 (fun y' hy' => by
        by_cases e1 : y' = y
        · subst e1; exact hq
        · exact hno2 y' (by omega))
      cases q1 : nr N a x with
      | false =>
        rw [q1] at h1
        exact p60_15_d (by omega) (lt10 hy) h1 rfl (I_add y 1) (go (by rw [q1]; rfl) _)
      | true =>
        rw [q1] at h1
        cases q2 : nr N b y with
        | false =>
          rw [q2] at h2
          exact p60_15_c (by omega) (lt10 hy) h1 (by decide) h2 rfl (I_add y 1) (go (by rw [q2, Bool.false_and, Bool.and_false]) _)
        | true =>
          rw [q2] at h2
          have h3 := K x y hx (pl_near G hb q2)
          cases q3 : rbB n N (wc n N k) x y r with
          | true =>
            rw [q3] at h3
            rw [show smB n N k a b r = true from anyB_iff.mpr ⟨x, hx, by rw [q1, Bool.true_and]; exact anyB_iff.mpr ⟨y, hy, by rw [q2, q3]; rfl⟩⟩]
            exact p60_15_a (by omega) (lt10 hy) h1 (by decide) h2 (by decide) hsub h3 (by decide)
          | false =>
            rw [q3] at h3
            exact p60_15_b (by omega) (lt10 hy) h1 (by decide) h2 (by decide) hsub h3 rfl (I_add y 1) (go (by rw [q3, Bool.and_false, Bool.and_false]) _)
    · refine p60_15_e nlt10 (I_add x 1) (e (fun x' hx' => ?_) _ _)
      by_cases e1 : x' = x
      · subst e1
        cases q1 : nr N a x' with
        | false => rfl
        | true =>
          rw [Bool.true_and, anyB_false]
          intro y hy
          have := hno2 y hy
          rw [q1, Bool.true_and] at this
          exact this
      · exact hno x' (by omega)
  · rw [show smB n N k a b r = false from anyB_false.mpr hno]
    exact p60_3_b (by omega) (nlt_n hR.1 hn (Nat.le_refl _) (by omega))
theorem sp59 (hR : GR w n N) (G : GW n N) : ∀ (k a b r d : Nat), 3 * k + 3 ≤ d → k ≤ 3 → a < n → pl n b → r < n → Ev d 59 (ent0 59 [.ref 2, .int (I a), .int (I b), .int (I r), .int (I k)] (hp E w)) (.inl (some (.int (bI (wc n N k a b r)))), hp E w)
  | k, a, b, r, d, hd, hk, ha, hb, hr => by
    have hn := G.n9
    have hb9 := pl9 hn hb
    by_cases h1 : r = a
    · rw [wc_caught (Or.inl h1.symm)]
      exact p59_e_i (by rw [h1])
    · have h1' : ¬ I r = I a := fun z => h1 ((I_inj (by omega) (by omega)).mp z)
      by_cases h2 : r = b
      · rw [wc_caught (Or.inr h2.symm)]
        exact p59_e_a h1' (by rw [h2])
      · have h2' : ¬ I r = I b := fun z => h2 ((I_inj (by omega) (by omega)).mp z)
        have hct : ctB a b r = false := by
          cases h : ctB a b r with
          | false => rfl
          | true => rcases ct_iff.mp h with h | h <;> omega
        cases k with
        | zero =>
          rw [show wc n N 0 a b r = false from hct]
          exact p59_e_h h1' h2' (by decide)
        | succ k =>
          have hk0 : (0 : Int32) < I (k + 1) := (I_lt (a := 0) (by omega) (by omega)).mpr (by omega)
          have hk3 : ¬ (3 : Int32) < I (k + 1) := fun z => by have := (I_lt (a := 3) (by omega) (by omega)).mp z; omega
          have q1 := sp52 (E := E) (d := d - 1) (by omega) hR G (show a ≤ 9 by omega) (show r ≤ 9 by omega)
          have q2 := sp52 (E := E) (d := d - 1) (by omega) hR G hb9 (show r ≤ 9 by omega)
          cases n1 : nr N a r with
          | true =>
            rw [n1] at q1
            rw [sm_near G ha hb9 (Or.inl n1) hr]
            exact p59_e_g (by omega) h1' h2' hk0 hk3 q1 (by decide)
          | false =>
            rw [n1] at q1
            cases n2 : nr N b r with
            | true =>
              rw [n2] at q2
              rw [sm_near G ha hb9 (Or.inr n2) hr]
              exact p59_e_c (by omega) h1' h2' hk0 hk3 q1 rfl q2 (by decide)
            | false =>
              rw [n2] at q2
              by_cases hk1 : k = 0
              · subst hk1
                rw [wc1_far hr n1 n2]
                exact p59_e_f (by omega) h1' h2' hk0 hk3 q1 rfl q2 rfl (by decide)
              · have hk1' : (1 : Int32) < I (k + 1) := (I_lt (a := 1) (by omega) (by omega)).mpr (by omega)
                have h3 := sp60 (E := E) hR G (k := k) (a := a) (b := b) (r := r) (d := d - 1) (by omega) (fun x y hx hy => sp61 hR G (by omega) (fun z hz => sp59 hR G k x y z (d - 1 - 1 - 1) (by omega) (by omega) hx hy hz) hx hy hr) ha hb hr
                rw [wc_sm, hct, Bool.false_or]
                cases q3 : smB n N k a b r with
                | true =>
                  rw [q3] at h3
                  exact p59_e_d (by omega) h1' h2' hk0 hk3 q1 rfl q2 rfl hk1' h3 (by decide)
                | false =>
                  rw [q3] at h3
                  exact p59_e_e (by omega) h1' h2' hk0 hk3 q1 rfl q2 rfl hk1' h3 rfl
/-- the time, if it is at most so much -/
def tma (n : Nat) (N : Nat → Nat) (most a b r : Nat) : Int32 := if tau n N a b r ≤ most then I (tau n N a b r) else -1
theorem sp58 {a b r most d : Nat} (hd : 13 ≤ d) (hR : GR w n N) (G : GW n N) (ha : a < n) (hb : pl n b) (hr : r < n) (hm : most ≤ 3) : Ev d 58 (ent0 58 [.ref 2, .int (I a), .int (I b), .int (I r), .int (I most)] (hp E w)) (.inl (some (.int (tma n N most a b r))), hp E w) := by
  have key := down (n := most + 1) (Q := fun j => (∀ i, i < j → wc n N i a b r = false) → Ev d 58 (3, [.ref 2, .int (I a), .int (I b), .int (I r), .int (I most), .int (I j)], [], hp E w) (.inl (some (.int (tma n N most a b r))), hp E w)) (fun j hj e hno => ?_) (fun hno => ?_) 0 (Nat.zero_le _)
  · exact p58_e_a (key (fun i hi => by omega))
  · have c1 : ¬ I most < I j := fun z => by have := (I_lt (by omega) (by omega)).mp z; omega
    have c2 : ¬ (3 : Int32) < I j := fun z => by have := (I_lt (a := 3) (by omega) (by omega)).mp z; omega
    have h1 := sp59 (E := E) hR G j a b r (d - 1) (by omega) (by omega) ha hb hr
    cases hh : wc n N j a b r with
    | true =>
      rw [hh] at h1
      have h2 : tau n N a b r = j := by
        have h3 := tau_le_of hh
        by_cases h4 : tau n N a b r < j
        · have h5 := hno _ h4
          rw [tau_yes (by omega)] at h5; cases h5
        · omega
      unfold tma
      rw [h2, if_pos (by omega)]
      exact p58_3_a (by omega) c1 c2 h1 (by decide)
    | false =>
      rw [hh] at h1
      exact p58_3_b (by omega) c1 c2 h1 rfl (I_add j 1) (e (fun i hi => by
        by_cases hij : i = j
        · subst hij; exact hh
        · exact hno i (by omega)))
  · have h2 : ¬ tau n N a b r ≤ most := fun z => by
      have := hno (tau n N a b r) (by omega)
      rw [tau_yes (by omega)] at this; cases this
    unfold tma
    rw [if_neg h2]
    exact p58_3_d ((I_lt (by omega) (by omega)).mpr (Nat.lt_succ_self most))
end
