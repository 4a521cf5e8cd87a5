/-! Sums, one place changed. -/
section
theorem sm_high {f : Nat → Nat} {k v : Nat} : ∀ {m : Nat}, m ≤ k → sm (updN f k v) m = sm f m
  | 0, _ => rfl
  | m + 1, h => by
    show sm (updN f k v) m + updN f k v m = sm f m + f m
    rw [sm_high (by omega)]
    unfold updN
    rw [if_neg (by omega)]
theorem sm_put {f : Nat → Nat} {k v : Nat} : ∀ {m : Nat}, k < m → sm (updN f k v) m + f k = sm f m + v
  | 0, h => by omega
  | m + 1, h => by
    show sm (updN f k v) m + updN f k v m + f k = sm f m + f m + v
    by_cases e : k = m
    · subst e
      rw [sm_high (Nat.le_refl _)]
      unfold updN
      rw [if_pos rfl]
      omega
    · have := sm_put (f := f) (k := k) (v := v) (m := m) (by omega)
      have h2 : updN f k v m = f m := by unfold updN; rw [if_neg (fun z => e z.symm)]
      rw [h2]
      omega
end
