/-! THE CHASE: two cops against one, steps, flights, catching. -/
section
variable {n : Nat} {N : Nat → Nat}
theorem tau_by {a b r a' b' r' : Nat} (h : ∀ k, wc n N k a b r = true → wc n N k a' b' r' = true) : tau n N a' b' r' ≤ tau n N a b r := by
  by_cases h1 : tau n N a b r < 99
  · exact tau_le_of (h _ (tau_yes h1))
  · have := tau_le (n := n) (N := N) a' b' r'
    omega
theorem tau_swap (G : GW n N) {a b r : Nat} (ha : a < n) (hb : b < n) : tau n N a b r = tau n N b a r :=
  Nat.le_antisymm (tau_by (fun k h => wc_swap G k b a r hb ha h)) (tau_by (fun k h => wc_swap G k a b r ha hb h))
theorem tau_two (G : GW n N) {a b r : Nat} (hb : pl n b) (hr : r < n) : tau n N a b r ≤ tau n N a 9 r := tau_by (fun k h => in_b G k a b r hb hr h)
theorem rho_by {a b r a' b' r' : Nat} (h : ∀ k, rbB n N (wc n N k) a b r = true → rbB n N (wc n N k) a' b' r' = true) : rho n N a' b' r' ≤ rho n N a b r := by
  by_cases h1 : rho n N a b r < 99
  · exact rho_le_of (h _ (rho_yes h1))
  · have := rho_le (n := n) (N := N) a' b' r'
    omega
theorem rb_swap (G : GW n N) {k a b r : Nat} (ha : a < n) (hb : b < n) (h : rbB n N (wc n N k) a b r = true) : rbB n N (wc n N k) b a r = true := by
  rw [rb_iff] at h ⊢
  rcases h with h | h
  · exact Or.inl h.symm
  · exact Or.inr (fun x hx hn => wc_swap G k a b x ha hb (h x hx hn))
theorem rho_swap (G : GW n N) {a b r : Nat} (ha : a < n) (hb : b < n) : rho n N a b r = rho n N b a r :=
  Nat.le_antisymm (rho_by (fun _ h => rb_swap G hb ha h)) (rho_by (fun _ h => rb_swap G ha hb h))
/-! the robber's best step -/
theorem awS_spec (a b r : Nat) : ∀ j, (∀ x, x < j → nr N r x = true → tau n N a b x + 1 ≤ (awS n N a b r j).2) ∧ ((awS n N a b r j).2 = 0 ∨ ((awS n N a b r j).1 < j ∧ nr N r (awS n N a b r j).1 = true ∧ (awS n N a b r j).2 = tau n N a b (awS n N a b r j).1 + 1))
  | 0 => ⟨fun x hx _ => by omega, Or.inl rfl⟩
  | j + 1 => by
    obtain ⟨h1, h2⟩ := awS_spec a b r j
    rw [awS_succ]
    by_cases hc : (nr N r j && decide ((awS n N a b r j).2 < tau n N a b j + 1)) = true
    · rw [if_pos hc]
      rw [Bool.and_eq_true, decide_eq_true_eq] at hc
      refine ⟨fun x hx hn => ?_, Or.inr ⟨Nat.lt_succ_self j, hc.1, rfl⟩⟩
      by_cases e : x = j
      · subst e; exact Nat.le_refl _
      · have := h1 x (by omega) hn
        show tau n N a b x + 1 ≤ tau n N a b j + 1
        omega
    · rw [if_neg hc]
      refine ⟨fun x hx hn => ?_, ?_⟩
      · by_cases e : x = j
        · subst e
          rw [hn, Bool.true_and, decide_eq_true_eq] at hc
          omega
        · exact h1 x (by omega) hn
      · rcases h2 with h2 | ⟨h3, h4, h5⟩
        · exact Or.inl h2
        · exact Or.inr ⟨by omega, h4, h5⟩
theorem away_spec {a b r : Nat} (hr : r < n) (h1 : a ≠ r) (h2 : b ≠ r) : ∃ z, z < n ∧ nr N r z = true ∧ awayV n N a b r = I z ∧ tau n N a b z = rho n N a b r := by
  obtain ⟨s1, s2⟩ := awS_spec (n := n) (N := N) a b r n
  have s3 := s1 r hr (nr_self N r)
  rcases s2 with s2 | ⟨s4, s5, s6⟩
  · omega
  · refine ⟨(awS n N a b r n).1, s4, s5, ?_, Nat.le_antisymm ?_ ?_⟩
    · unfold awayV
      rw [if_neg (fun z => by rcases z with z | z <;> omega), if_neg (by omega)]
    · by_cases h : rho n N a b r < 99
      · rcases rb_iff.mp (rho_yes h) with h3 | h3
        · rcases h3 with h3 | h3 <;> omega
        · exact tau_le_of (h3 _ s4 s5)
      · have := tau_le (n := n) (N := N) a b (awS n N a b r n).1
        omega
    · by_cases h : tau n N a b (awS n N a b r n).1 < 99
      · refine rho_le_of (rb_iff.mpr (Or.inr (fun x hx hn => ?_)))
        have := s1 x hx hn
        exact (wc_tau h).mpr (by omega)
      · have := rho_le (n := n) (N := N) a b r
        omega
/-! the cops' best step -/
theorem mnf_at (a b r : Nat) : ∀ M, mnf n N a b r M = 1000 ∨ ∃ m, m < M ∧ cand n N a b r m = true ∧ mnf n N a b r M = nmv (m / 10) (m % 10)
  | 0 => Or.inl rfl
  | M + 1 => by
    rw [mnf_succ]
    by_cases hc : (cand n N a b r M && decide (nmv (M / 10) (M % 10) < mnf n N a b r M)) = true
    · rw [if_pos hc]
      rw [Bool.and_eq_true] at hc
      exact Or.inr ⟨M, Nat.lt_succ_self M, hc.1, rfl⟩
    · rw [if_neg hc]
      rcases mnf_at a b r M with h | ⟨m, h1, h2, h3⟩
      · exact Or.inl h
      · exact Or.inr ⟨m, by omega, h2, h3⟩
theorem step_spec (G : GW n N) {a b r : Nat} (ha : a < n) (hb : pl n b) (h0 : 0 < tau n N a b r) (h9 : tau n N a b r < 99) : ∃ x y, x < n ∧ y < 10 ∧ nr N a x = true ∧ nr N b y = true ∧ rho n N x y r + 1 = tau n N a b r ∧ stepV n N a b r = I (nmv x y) := by
  have hs := mnf_some G ha hb h0 h9
  rcases mnf_at (n := n) (N := N) a b r (10 * n) with h | ⟨m, h1, h2, h3⟩
  · omega
  · unfold cand at h2
    rw [Bool.and_eq_true, Bool.and_eq_true, decide_eq_true_eq] at h2
    refine ⟨m / 10, m % 10, by omega, by omega, h2.1, h2.2.1, h2.2.2, ?_⟩
    unfold stepV
    rw [if_pos ⟨h0, h9⟩, h3]
theorem step_none {a b r : Nat} (h : ¬ (0 < tau n N a b r ∧ tau n N a b r < 99)) : stepV n N a b r = -1 := by
  unfold stepV
  rw [if_neg h]
theorem step_one (G : GW n N) {a r : Nat} (ha : a < n) (h0 : 0 < tau n N a 9 r) (h9 : tau n N a 9 r < 99) : ∃ x, x < n ∧ rho n N x 9 r + 1 = tau n N a 9 r ∧ stepV n N a 9 r = I x := by
  obtain ⟨x, y, h1, h2, h3, h4, h5, h6⟩ := step_spec G ha (Or.inr rfl) h0 h9
  have hy := near9 G h4
  subst hy
  refine ⟨x, h1, h5, ?_⟩
  rw [h6]
  unfold nmv
  rw [if_pos rfl]
theorem step_two (G : GW n N) {a b r : Nat} (ha : a < n) (hb : b < n) (h0 : 0 < tau n N a b r) (h9 : tau n N a b r < 99) : ∃ lo hi, lo < n ∧ hi < n ∧ rho n N lo hi r + 1 = tau n N a b r ∧ stepV n N a b r = I (10 * lo + hi) := by
  have hn := G.n9
  obtain ⟨x, y, h1, h2, h3, h4, h5, h6⟩ := step_spec G ha (Or.inl hb) h0 h9
  have hy := nr_lt G hb h4
  have e : nmv x y = 10 * min x y + max x y := by
    unfold nmv
    rw [if_neg (by omega)]
  rw [e] at h6
  rcases Nat.le_total x y with h | h
  · rw [Nat.min_eq_left h, Nat.max_eq_right h] at h6
    exact ⟨x, y, h1, hy, h5, h6⟩
  · rw [Nat.min_eq_right h, Nat.max_eq_left h] at h6
    exact ⟨y, x, hy, h1, by rw [rho_swap G hy h1]; exact h5, h6⟩
/-! catching -/
theorem setB_all {p : Nat → Bool} : setB n p = 2 ^ n - 1 ↔ ∀ r, r < n → p r = true := by
  constructor
  · intro h r hr
    have h1 := congrArg (fun z : Nat => z.testBit r) h
    simp only [setB_tb, Nat.testBit_two_pow_sub_one, decide_eq_true hr, Bool.true_and] at h1
    exact h1
  · intro h
    apply Nat.eq_of_testBit_eq
    intro i
    rw [setB_tb, Nat.testBit_two_pow_sub_one]
    by_cases hi : i < n
    · rw [h i hi, Bool.and_true]
    · rw [decide_eq_false hi, Bool.false_and]
theorem cf_iff {b : Nat} : cfB n N b = true ↔ ∃ a, a < n ∧ ∀ r, r < n → tau n N a b r < 99 := by
  unfold cfB
  rw [anyB_iff]
  constructor
  · rintro ⟨a, ha, h⟩
    exact ⟨a, ha, fun r hr => of_decide_eq_true (setB_all.mp (of_decide_eq_true h) r hr)⟩
  · rintro ⟨a, ha, h⟩
    exact ⟨a, ha, decide_eq_true (setB_all.mpr (fun r hr => decide_eq_true (h r hr)))⟩
theorem one_two (G : GW n N) (h : cfB n N 9 = true) : twB n N = true := by
  obtain ⟨a, ha, h1⟩ := cf_iff.mp h
  refine anyB_iff.mpr ⟨a, ha, cf_iff.mpr ⟨a, ha, fun r hr => ?_⟩⟩
  exact Nat.lt_of_le_of_lt (tau_two G (Or.inl ha) hr) (h1 r hr)
end
