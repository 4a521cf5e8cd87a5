/-! THE LEAST BLUE SET. -/
section
variable {n : Nat} {N : Nat → Nat}
theorem rit_sup {b i : Nat} (h : b.testBit i = true) : ∀ j, (rit n N j b).testBit i = true
  | 0 => h
  | j + 1 => by
    rw [rit_succ]
    exact rd_sup _ i (rit_sup h j)
theorem lst_full (G : GW n N) : lst n N (2 ^ n - 1) = 2 ^ n - 1 := by
  have h1p := Nat.one_le_two_pow (n := n)
  have hl := lst_lt (n := n) (N := N) G (b := 2 ^ n - 1) (by omega)
  apply Nat.eq_of_testBit_eq
  intro i
  apply bool_eq
  constructor
  · exact fun h => tb_all.mpr (lt_pow_bits hl h)
  · exact fun h => rit_sup h 9
theorem lb_blue (G : GW n N) (k : Nat) : lst n N (lb n N k) = 2 ^ n - 1 := by
  refine fl_inv (P := fun a => lst n N a = 2 ^ n - 1) (lst_full G) (fun b a _ ha => ?_)
  by_cases h : (decide (pc b < pc a) && decide (lst n N b = 2 ^ n - 1)) = true
  · rw [if_pos h]
    rw [Bool.and_eq_true, decide_eq_true_eq, decide_eq_true_eq] at h
    exact h.2
  · rw [if_neg h]; exact ha
theorem lb_succ (k : Nat) : lb n N (k + 1) = if (decide (pc k < pc (lb n N k)) && decide (lst n N k = 2 ^ n - 1)) = true then k else lb n N k := rfl
theorem lb_where : ∀ k, lb n N k < k ∨ lb n N k = 2 ^ n - 1
  | 0 => Or.inr rfl
  | k + 1 => by
    rw [lb_succ]
    split
    · exact Or.inl (Nat.lt_succ_self k)
    · rcases lb_where k with h | h
      · exact Or.inl (by omega)
      · exact Or.inr h
theorem lb_first (G : GW n N) : ∀ k, k ≤ 2 ^ n → ∀ b, b < k → lst n N b = 2 ^ n - 1 → pc (lb n N k) < pc b ∨ (pc (lb n N k) = pc b ∧ lb n N k ≤ b)
  | 0, _, b, hb, _ => by omega
  | k + 1, hk, b, hb, hl => by
    have h512 := two_pow_le G.n9
    have h1p := Nat.one_le_two_pow (n := n)
    have ih := lb_first G k (by omega)
    rw [lb_succ]
    by_cases h : (decide (pc k < pc (lb n N k)) && decide (lst n N k = 2 ^ n - 1)) = true
    · rw [if_pos h]
      rw [Bool.and_eq_true, decide_eq_true_eq, decide_eq_true_eq] at h
      by_cases e : b = k
      · subst e; exact Or.inr ⟨rfl, Nat.le_refl _⟩
      · have := ih b (by omega) hl
        left
        omega
    · rw [if_neg h]
      by_cases e : b = k
      · subst e
        rw [hl, decide_eq_true (rfl : 2 ^ n - 1 = 2 ^ n - 1), Bool.and_true, decide_eq_true_eq] at h
        rcases lb_where (n := n) (N := N) b with h2 | h2
        · omega
        · by_cases e2 : b = 2 ^ n - 1
          · rw [h2]
            rw [h2] at h
            omega
          · rw [h2] at h
            exact absurd (pc_lt (a := b) (b := 2 ^ n - 1) (by omega) (fun i hi => sub_all (by omega) i hi) e2) h
      · exact ih b (by omega) hl
theorem lb_least (G : GW n N) {b : Nat} (hb : b < 2 ^ n) (h : pc b < pc (lb n N (2 ^ n)) ∨ (pc b = pc (lb n N (2 ^ n)) ∧ b < lb n N (2 ^ n))) : lst n N b ≠ 2 ^ n - 1 := fun hl => by
  have := lb_first G (2 ^ n) (Nat.le_refl _) b hb hl
  omega
end
