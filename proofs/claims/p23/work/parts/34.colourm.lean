/-! COLOURS, the reference. -/
section
variable {E : Nat × (Nat → Int32)} {w : Wd} {d n : Nat} {N : Nat → Nat}
theorem rit9 (G : GW n N) {b : Nat} (hb : b < 2 ^ n) (j : Nat) : rit n N j b < 512 := Nat.lt_of_lt_of_le (rit_lt G hb j) (two_pow_le G.n9)
/-- the least set: reference, from k down -/
def lbd (n : Nat) (N : Nat → Nat) : Nat → Nat → Nat
  | 0, a => a
  | k + 1, a => lbd n N k (if (decide (pc (k + 1) ≤ pc a) && decide (lst n N (k + 1) = 2 ^ n - 1)) = true then k + 1 else a)
theorem lst_all (G : GW n N) : lst n N (2 ^ n - 1) = 2 ^ n - 1 := by
  have h1p := Nat.one_le_two_pow (n := n)
  have hl := lst_lt G (b := 2 ^ n - 1) (by omega)
  apply Nat.eq_of_testBit_eq
  intro i
  apply bool_eq
  constructor
  · exact sub_all hl i
  · intro h
    exact fl_inv (P := fun a : Nat => a.testBit i = true) h (fun k a _ ha => rd_sup a i ha)
/-- the least of all good sets -/
def isLb (n : Nat) (N : Nat → Nat) (a : Nat) : Prop := a < 2 ^ n ∧ lst n N a = 2 ^ n - 1 ∧ ∀ t, t < 2 ^ n → lst n N t = 2 ^ n - 1 → pc a < pc t ∨ (pc a = pc t ∧ a ≤ t)
theorem isLb_eq {a b : Nat} (ha : isLb n N a) (hb : isLb n N b) : a = b := by
  rcases ha.2.2 b hb.1 hb.2.1 with h1 | h1 <;> rcases hb.2.2 a ha.1 ha.2.1 with h2 | h2 <;> omega
theorem pc_all_lt {b : Nat} (hn : n ≤ 9) (hb : b < 2 ^ n) (h : b ≠ 2 ^ n - 1) : pc b < pc (2 ^ n - 1) := by
  have h1p := Nat.one_le_two_pow (n := n)
  have h512 := two_pow_le hn
  exact pc_lt (by omega) (sub_all hb) h
theorem lb_isLb (G : GW n N) : isLb n N (lb n N (2 ^ n)) := by
  have h1p := Nat.one_le_two_pow (n := n)
  have key : ∀ k, k ≤ 2 ^ n → lst n N (lb n N k) = 2 ^ n - 1 ∧ (lb n N k < k ∨ lb n N k = 2 ^ n - 1) ∧ ∀ t, t < k → lst n N t = 2 ^ n - 1 → pc (lb n N k) < pc t ∨ (pc (lb n N k) = pc t ∧ lb n N k ≤ t) := by
    intro k
    induction k with
    | zero => intro _; exact ⟨lst_all G, Or.inr rfl, fun t ht => by omega⟩
    | succ k ih =>
      intro hk
      obtain ⟨a1, a2, a3⟩ := ih (by omega)
      have e : lb n N (k + 1) = if (decide (pc k < pc (lb n N k)) && decide (lst n N k = 2 ^ n - 1)) = true then k else lb n N k := rfl
      by_cases h1 : pc k < pc (lb n N k)
      · by_cases h2 : lst n N k = 2 ^ n - 1
        · rw [if_pos (by simp [h1, h2])] at e
          rw [e]
          refine ⟨h2, Or.inl (by omega), fun t ht hg => ?_⟩
          by_cases h3 : t = k
          · subst h3; exact Or.inr ⟨rfl, Nat.le_refl _⟩
          · rcases a3 t (by omega) hg with h | h
            · exact Or.inl (by omega)
            · exact Or.inl (by omega)
        · rw [if_neg (by simp [h2])] at e
          rw [e]
          refine ⟨a1, by omega, fun t ht hg => ?_⟩
          by_cases h3 : t = k
          · subst h3; exact absurd hg h2
          · exact a3 t (by omega) hg
      · rw [if_neg (by simp [h1])] at e
        rw [e]
        refine ⟨a1, by omega, fun t ht hg => ?_⟩
        by_cases h3 : t = k
        · subst h3
          by_cases h4 : pc (lb n N t) < pc t
          · exact Or.inl h4
          · right
            refine ⟨by omega, ?_⟩
            rcases a2 with h5 | h5
            · omega
            · rw [h5] at h1 h4 ⊢
              by_cases h6 : t = 2 ^ n - 1
              · omega
              · have := pc_all_lt G.n9 (show t < 2 ^ n by omega) h6; omega
        · exact a3 t (by omega) hg
  obtain ⟨a1, a2, a3⟩ := key (2 ^ n) (Nat.le_refl _)
  exact ⟨lb_lt n N (Nat.le_refl _), a1, a3⟩
theorem lst_zero (G : GW n N) : lst n N 0 = 0 := by
  have h : rd n N 0 = 0 := fl_inv (P := fun a => a = 0) rfl (fun k a _ ha => by
    rw [if_neg (by simp [rdp])]; exact ha)
  exact lst_eq (i := 0) (by decide) h
theorem lbd_isLb (G : GW n N) : ∀ k a, k < 2 ^ n → a < 2 ^ n → lst n N a = 2 ^ n - 1 → k ≤ a → (∀ t, t < 2 ^ n → k < t → lst n N t = 2 ^ n - 1 → pc a < pc t ∨ (pc a = pc t ∧ a ≤ t)) → isLb n N (lbd n N k a)
  | 0, a, _, ha, hg, _, hm => by
    refine ⟨ha, hg, fun t ht hgt => ?_⟩
    by_cases h0 : t = 0
    · subst h0
      rw [lst_zero G] at hgt
      have h1 : 2 ^ 1 ≤ 2 ^ n := Nat.pow_le_pow_right (by decide) G.n1
      omega
    · exact hm t ht (by omega) hgt
  | k + 1, a, hk, ha, hg, hka, hm => by
    unfold lbd
    by_cases h1 : pc (k + 1) ≤ pc a
    · by_cases h2 : lst n N (k + 1) = 2 ^ n - 1
      · rw [if_pos (by simp [h1, h2])]
        refine lbd_isLb G k (k + 1) (by omega) hk h2 (by omega) (fun t ht hkt hgt => ?_)
        by_cases h3 : t = k + 1
        · subst h3; exact Or.inr ⟨rfl, Nat.le_refl _⟩
        · rcases hm t ht (by omega) hgt with h | h
          · exact Or.inl (by omega)
          · by_cases h4 : pc (k + 1) < pc t
            · exact Or.inl h4
            · exact Or.inr ⟨by omega, by omega⟩
      · rw [if_neg (by simp [h2])]
        refine lbd_isLb G k a (by omega) ha hg (by omega) (fun t ht hkt hgt => ?_)
        by_cases h3 : t = k + 1
        · subst h3; exact absurd hgt h2
        · exact hm t ht (by omega) hgt
    · rw [if_neg (by simp [h1])]
      refine lbd_isLb G k a (by omega) ha hg (by omega) (fun t ht hkt hgt => ?_)
      by_cases h3 : t = k + 1
      · subst h3; exact Or.inl (by omega)
      · exact hm t ht (by omega) hgt
theorem lbd_lb (G : GW n N) : lbd n N (2 ^ n - 1) (2 ^ n - 1) = lb n N (2 ^ n) := by
  have h1p := Nat.one_le_two_pow (n := n)
  exact isLb_eq (lbd_isLb G (2 ^ n - 1) (2 ^ n - 1) (by omega) (by omega) (lst_all G) (Nat.le_refl _) (fun t ht h _ => by omega)) (lb_isLb G)
theorem I_dec (k : Nat) : I (k + 1) + (-1 : Int32) = I k := by
  rw [← I_add k 1, Int32.add_assoc, show I 1 + (-1 : Int32) = 0 by decide, Int32.add_zero]
end
