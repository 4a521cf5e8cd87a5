/-! THE OPERATIONS that ask. -/
section
variable {E : Nat × (Nat → Int32)} {w : Wd} {d n s v : Nat} {N : Nat → Nat} {D : DL} {x y z t : Int32}
theorem nn_ex {k : Nat} {x : Int32} (hk : k < 2147483648) (h1 : ¬ x < 0) (h2 : ¬ I k < x) : ∃ j, j ≤ k ∧ x = I j := by
  have h3 : 0 ≤ x.toInt := by
    have := Int32.not_lt.mp h1
    rw [Int32.le_iff_toInt_le] at this
    exact this
  have h5 := Int32.toInt_lt x
  have h4 : x = I x.toInt.toNat := by
    apply Int32.toInt_inj.mp
    rw [I_toInt (by omega)]
    omega
  refine ⟨x.toInt.toNat, ?_, h4⟩
  rw [h4, I_lt (by omega) (by omega)] at h2
  omega
theorem lt1_lt0 {x : Int32} (h : ¬ x < 1) : ¬ x < 0 := by
  intro z
  apply h
  rw [Int32.lt_iff_toInt_lt] at z ⊢
  have h0 : (0 : Int32).toInt = 0 := by decide
  have h1 : (1 : Int32).toInt = 1 := by decide
  omega
theorem sp90T (hd : 1 ≤ d) (hR : GR w n N) (h : isR n x = true) : Ev d 90 (ent0 90 [.ref 1, .int x] (hp E w)) (.inl none, hp E w) := by
  have := sp44 (E := E) (d := d - 1) (x := x) hR
  rw [h] at this
  exact p90_e_b hd this (by decide)
theorem sp90F (hd : 1 ≤ d) (hR : GR w n N) (h : isR n x = false) : Ev d 90 (ent0 90 [.ref 1, .int x] (hp E w)) (.inr 2, hp E (sT w)) := by
  have := sp44 (E := E) (d := d - 1) (x := x) hR
  rw [h] at this
  exact p90_e_a hd this rfl rfl
theorem sp91T (hd : 2 ≤ d) (hR : GR w n N) (h : areR n x y z = true) : Ev d 91 (ent0 91 [.ref 1, .int x, .int y, .int z] (hp E w)) (.inl none, hp E w) := by
  unfold areR at h
  rw [Bool.and_eq_true, Bool.and_eq_true, Bool.or_eq_true] at h
  obtain ⟨h1, h2, h3⟩ := h
  by_cases hm : y = -1
  · exact p91_e_f (by omega) (sp90T (by omega) hR h1) hm (sp90T (by omega) hR h3)
  · rcases h2 with h2 | h2
    · exact absurd (of_decide_eq_true h2) hm
    · exact p91_e_d (by omega) (sp90T (by omega) hR h1) hm (sp90T (by omega) hR h2) (sp90T (by omega) hR h3)
theorem sp91F (hd : 2 ≤ d) (hR : GR w n N) (h : areR n x y z = false) : Ev d 91 (ent0 91 [.ref 1, .int x, .int y, .int z] (hp E w)) (.inr 2, hp E (sT w)) := by
  unfold areR at h
  cases h1 : isR n x with
  | false => exact p91_e_a (by omega) (sp90F (by omega) hR h1)
  | true =>
    rw [h1, Bool.true_and] at h
    by_cases hm : y = -1
    · rw [decide_eq_true hm, Bool.true_or, Bool.true_and] at h
      exact p91_e_e (by omega) (sp90T (by omega) hR h1) hm (sp90F (by omega) hR h)
    · rw [decide_eq_false hm, Bool.false_or] at h
      cases h2 : isR n y with
      | false => exact p91_e_b (by omega) (sp90T (by omega) hR h1) hm (sp90F (by omega) hR h2)
      | true =>
        rw [h2, Bool.true_and] at h
        exact p91_e_c (by omega) (sp90T (by omega) hR h1) hm (sp90T (by omega) hR h2) (sp90F (by omega) hR h)
theorem sp94 {b : Nat} (h : PB n x b) : Ev d 94 (ent0 94 [.int x] (hp E w)) (.inl (some (.int (I b))), hp E w) := by
  rcases h with ⟨c1, c2⟩ | ⟨c1, c2, c3⟩
  · rw [c2]; exact p94_e_a c1
  · have := p94_e_b (E := E) (w := w) (d := d) c3
    rw [c1] at this ⊢
    exact this
/-- stops of the reference -/
theorem stops3 {kM : Nat} {aM : List Value} {c v2 : Int32} (h : ∀ w1 v1, Ev (d - 1) 97 (ent0 97 [.ref 27, .int c] (hp E (sF 8 0 w))) (.inl (some (.int v1)), hp E w1) → Ev d kM (ent0 kM aM (hp E w)) (.inl (some (.int v2)), hp E w1)) : Ev d kM (ent0 kM aM (hp E w)) (.inl (some (.int v2)), hp E (sF 8 c (sF 8 0 w))) := h _ _ sp97
theorem op_time (hd : 40 ≤ d) (S : Sim w n N s D v) (C : CAP n N) (hv : v < 2147483648) : AGW E w v d 145 [.ref 1, .int x, .int y, .int z, .ref 37] 120 [.ref 27, .int x, .int y, .int z] := by
  have G := S.gw
  cases hq : areR n x y z with
  | false =>
    have h9 := sp119 (E := E) (w := sF 8 0 (sT w)) (d := d - 1) (a := x) (b := y) (c := z) (by omega) S.mr
    rw [hq] at h9
    exact agw_throw S (by decide) (p145_e_a (by omega) (p76_e_a (by omega) (sp91F (by omega) S.gr hq))) (p120_e_a (by omega) h9 rfl sp97)
  | true =>
    obtain ⟨a, b, r, rfl, ha, hb, rfl, hr⟩ := areR_ex G.n9 hq
    obtain ⟨w1, e1, S1, hT, ht⟩ := prep7 (E := E) (d := d - 1 - 1) (by omega) S C hv
    obtain ⟨f, g, e2⟩ := sp120 (E := E) (w := so1 (tv (tau n N a b r)).toInt64 w1) (d := d) (by omega) S1.o.mr G ha hb hr hq
    exact ⟨_, _, _, _, p145_e_b (by omega) (p76_e_b (by omega) (sp91T (by omega) S.gr hq) e1 (sp94 hb) (sp16 (by omega) hT G ha hb.pl hr)) rfl, e2, rfl, fun _ => gO_so1, Sim.out (S1.o.f8.tw) (Nat.le_succ_of_le (Nat.le_of_eq ht))⟩
theorem op_step (hd : 40 ≤ d) (S : Sim w n N s D v) (C : CAP n N) (hv : v < 2147483648) : AGW E w v d 147 [.ref 1, .int x, .int y, .int z, .ref 37] 122 [.ref 27, .int x, .int y, .int z] := by
  have G := S.gw
  cases hq : areR n x y z with
  | false =>
    have h9 := sp119 (E := E) (w := sF 8 0 (sT w)) (d := d - 1) (a := x) (b := y) (c := z) (by omega) S.mr
    rw [hq] at h9
    exact agw_throw S (by decide) (p147_e_a (by omega) (p78_e_a (by omega) (sp91F (by omega) S.gr hq))) (p122_e_a (by omega) h9 rfl sp97)
  | true =>
    obtain ⟨a, b, r, rfl, ha, hb, rfl, hr⟩ := areR_ex G.n9 hq
    obtain ⟨w1, e1, S1, hT, ht⟩ := prep7 (E := E) (d := d - 1 - 1) (by omega) S C hv
    obtain ⟨f, g, e2⟩ := sp122 (E := E) (w := so1 (stepV n N a b r).toInt64 w1) (d := d) (by omega) S1.o.mr G ha hb hr hq
    exact ⟨_, _, _, _, p147_e_b (by omega) (p78_e_b (by omega) (sp91T (by omega) S.gr hq) e1 (sp94 hb) (sp18 (by omega) S1.gr hT G ha hb.pl hr)) rfl, e2, rfl, fun _ => gO_so1, Sim.out (S1.o.f8.tw) (Nat.le_succ_of_le (Nat.le_of_eq ht))⟩
theorem op_away (hd : 40 ≤ d) (S : Sim w n N s D v) (C : CAP n N) (hv : v < 2147483648) : AGW E w v d 148 [.ref 1, .int x, .int y, .int z, .ref 37] 123 [.ref 27, .int x, .int y, .int z] := by
  have G := S.gw
  cases hq : areR n x y z with
  | false =>
    have h9 := sp119 (E := E) (w := sF 8 0 (sT w)) (d := d - 1) (a := x) (b := y) (c := z) (by omega) S.mr
    rw [hq] at h9
    exact agw_throw S (by decide) (p148_e_a (by omega) (p79_e_a (by omega) (sp91F (by omega) S.gr hq))) (p123_e_a (by omega) h9 rfl sp97)
  | true =>
    obtain ⟨a, b, r, rfl, ha, hb, rfl, hr⟩ := areR_ex G.n9 hq
    obtain ⟨w1, e1, S1, hT, ht⟩ := prep7 (E := E) (d := d - 1 - 1) (by omega) S C hv
    obtain ⟨w2, e2, hw⟩ := sp123 (E := E) (w := so1 (awayV n N a b r).toInt64 w1) (d := d) (by omega) S1.o.mr G ha hb hr hq
    have e3 := p148_e_b (E := E) (d := d) (by omega) (p79_e_b (by omega) (sp91T (by omega) S.gr hq) e1 (sp94 hb) (sp20 (by omega) S1.gr hT G ha hb.pl hr)) rfl
    rcases hw with hw | ⟨f, g, hw⟩
    · subst hw
      exact ⟨_, _, _, _, e3, e2, rfl, fun _ => gO_so1, Sim.out (S1.o.f8) (Nat.le_succ_of_le (Nat.le_of_eq ht))⟩
    · subst hw
      exact ⟨_, _, _, _, e3, e2, rfl, fun _ => gO_so1, Sim.out (S1.o.f8.tw) (Nat.le_succ_of_le (Nat.le_of_eq ht))⟩
theorem op_timeAnew (hd : 40 ≤ d) (S : Sim w n N s D v) : AGW E w v d 146 [.ref 1, .int x, .int y, .int z, .int t, .ref 37] 121 [.ref 27, .int x, .int y, .int z, .int t] := by
  have G := S.gw
  have h9 := sp119 (E := E) (w := sF 8 0 (sT w)) (d := d - 1) (a := x) (b := y) (c := z) (by omega) S.mr
  cases hq : areR n x y z with
  | false =>
    rw [hq] at h9
    exact agw_throw S (by decide) (p146_e_b (by omega) (p77_e_a (by omega) (sp91F (by omega) S.gr hq))) (p121_e_a (by omega) h9 rfl sp97)
  | true =>
    rw [hq] at h9
    by_cases t0 : t < 0
    · exact agw_throw S (by decide) (p146_e_a (by omega) (p77_e_d (by omega) (sp91T (by omega) S.gr hq) t0 rfl)) (p121_e_k (by omega) h9 (by decide) t0 sp97)
    · by_cases t3 : (3 : Int32) < t
      · exact agw_throw S (by decide) (p146_e_a (by omega) (p77_e_b (by omega) (sp91T (by omega) S.gr hq) t0 t3 rfl)) (p121_e_b (by omega) h9 (by decide) t0 t3 sp97)
      · obtain ⟨m, hm, rfl⟩ := nn_ex (k := 3) (by decide) t0 t3
        obtain ⟨a, b, r, rfl, ha, hb, rfl, hr⟩ := areR_ex G.n9 hq
        obtain ⟨f, g, e2⟩ := sp121 (E := E) (w := so1 (tma n N m a b r).toInt64 w) (d := d) (by omega) S.o.mr G ha hb hr hm hq
        exact ⟨_, _, _, _, p146_e_c (by omega) (p77_e_c (by omega) (sp91T (by omega) S.gr hq) t0 t3 (sp94 hb) (sp58 (by omega) S.gr G ha hb.pl hr hm)) rfl, e2, rfl, fun _ => gO_so1, Sim.out (S.o.f8.tw) (Nat.le_succ _)⟩
theorem bI_b1 (b : Bool) : bI b &&& 1 = bI b := bI_and b
theorem op_catches (hd : 40 ≤ d) (S : Sim w n N s D v) (C : CAP n N) (hv : v < 2147483648) : ∃ w1 v1 w2 b, Ev d 149 (ent0 149 [.ref 1, .int x, .ref 37] (hp E w)) (.inl (some (.int v1)), hp E w1) ∧ Ev d 124 (ent0 124 [.ref 27, .int x] (hp E w1)) (.inl (some (.int (bI b))), hp E w2) ∧ gF w2 8 = v1 ∧ (v1 = 0 → gO w2 = bif b then 1 else 0) ∧ OUT w v w2 := by
  have G := S.gw
  by_cases x1 : x < 1
  · exact ⟨_, _, _, false, p149_e_a (by omega) (p80_e_d x1 rfl), p124_e_d (by omega) x1 sp97, rfl, fun z => absurd z (by decide), Sim.out (S.t.f8.f8) (Nat.le_refl _)⟩
  · by_cases x2 : (2 : Int32) < x
    · exact ⟨_, _, _, false, p149_e_a (by omega) (p80_e_a x1 x2 rfl), p124_e_a (by omega) x1 x2 sp97, rfl, fun z => absurd z (by decide), Sim.out (S.t.f8.f8) (Nat.le_refl _)⟩
    · obtain ⟨m, hm, rfl⟩ := nn_ex (k := 2) (by decide) (lt1_lt0 x1) x2
      obtain ⟨w1, e1, S1, hT, ht⟩ := prep7 (E := E) (d := d - 1 - 1) (by omega) S C hv
      have hm' : m = 0 ∨ m = 1 ∨ m = 2 := by omega
      rcases hm' with rfl | rfl | rfl
      · exact absurd (by decide) x1
      · have e3 := p80_e_b (E := E) (d := d - 1) (by omega) x1 x2 e1 rfl (sp21 (by omega) S1.gr hT G) (bI_and _)
        obtain ⟨f, g, e2⟩ := sp124o (E := E) (w := so1 (bif cfB n N 9 then 1 else 0) w1) (d := d) (by omega) S1.o.mr G
        refine ⟨_, 0, _, cfB n N 9, ?_, e2, rfl, fun _ => gO_so1, Sim.out (S1.o.f8.tw) (Nat.le_succ_of_le (Nat.le_of_eq ht))⟩
        cases hc : cfB n N 9 with
        | true => rw [hc] at e3; exact p149_e_b (by omega) e3 (by decide) rfl
        | false => rw [hc] at e3; exact p149_e_c (by omega) e3 rfl rfl
      · have e3 := p80_e_c (E := E) (d := d - 1) (by omega) x1 x2 e1 (by decide) (sp22 (by omega) S1.gr hT G) (bI_and _)
        obtain ⟨f, g, e2⟩ := sp124t (E := E) (w := so1 (bif twB n N then 1 else 0) w1) (d := d) (by omega) S1.o.mr G
        refine ⟨_, 0, _, twB n N, ?_, e2, rfl, fun _ => gO_so1, Sim.out (S1.o.f8.tw) (Nat.le_succ_of_le (Nat.le_of_eq ht))⟩
        cases hc : twB n N with
        | true => rw [hc] at e3; exact p149_e_b (by omega) e3 (by decide) rfl
        | false => rw [hc] at e3; exact p149_e_c (by omega) e3 rfl rfl
end
