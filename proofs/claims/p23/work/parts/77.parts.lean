/-! THE FACT: rooms that hang together, and the chase in them. -/
section
variable {n : Nat} {N : Nat → Nat}
/-- the same as nr 9 is just 9 -/
theorem near9 (G : GW n N) {y : Nat} (h : nr N 9 y = true) : y = 9 := by
  by_cases e : y = 9
  · exact e
  · rw [nr_9 G e] at h; cases h
theorem inj_sm : ∀ {m : Nat} {h : Nat} {f : Nat → Nat} (g : Nat → Nat), (∀ i, i < m → f i < h) → (∀ i j, i < m → j < m → f i = f j → i = j) → sm (fun i => g (f i)) m ≤ sm g h
  | 0, _, _, _, _, _ => Nat.zero_le _
  | m + 1, h, f, g, hl, hi => by
    have e1 : sm (fun i => g (f i)) m = sm (fun i => (updN g (f m) 0) (f i)) m := by
      have le1 : sm (fun i => g (f i)) m ≤ sm (fun i => (updN g (f m) 0) (f i)) m := sm_le (fun k hk => by
        have hne : f k ≠ f m := fun z => by have := hi k m (by omega) (by omega) z; omega
        have e : updN g (f m) 0 (f k) = g (f k) := if_neg hne
        exact Nat.le_of_eq e.symm)
      have le2 : sm (fun i => (updN g (f m) 0) (f i)) m ≤ sm (fun i => g (f i)) m := sm_le (fun k hk => by
        have hne : f k ≠ f m := fun z => by have := hi k m (by omega) (by omega) z; omega
        have e : updN g (f m) 0 (f k) = g (f k) := if_neg hne
        exact Nat.le_of_eq e)
      exact Nat.le_antisymm le1 le2
    have e2 := inj_sm (m := m) (h := h) (f := f) (updN g (f m) 0) (fun i hk => hl i (by omega)) (fun i j h1 h2 => hi i j (by omega) (by omega))
    have e3 := sm_put (f := g) (k := f m) (v := 0) (m := h) (hl m (by omega))
    show sm (fun i => g (f i)) m + g (f m) ≤ sm g h
    omega
theorem sm_one : ∀ m, sm (fun _ => 1) m = m
  | 0 => rfl
  | m + 1 => by
    show sm (fun _ => 1) m + 1 = m + 1
    rw [sm_one m]
theorem inj_le {m h : Nat} {f : Nat → Nat} (hl : ∀ i, i < m → f i < h) (hi : ∀ i j, i < m → j < m → f i = f j → i = j) : m ≤ h := by
  have := inj_sm (m := m) (h := h) (f := f) (fun _ => 1) hl hi
  rw [sm_one, sm_one] at this
  exact this
/-- the numbers below n with a test, in a row -/
theorem enum (p : Nat → Bool) : ∀ n, ∃ f : Nat → Nat, (∀ i, i < sm (fun k => (p k).toNat) n → f i < n ∧ p (f i) = true) ∧ (∀ i j, i < sm (fun k => (p k).toNat) n → j < sm (fun k => (p k).toNat) n → f i = f j → i = j) ∧ ∀ x, x < n → p x = true → ∃ i, i < sm (fun k => (p k).toNat) n ∧ f i = x
  | 0 => ⟨fun _ => 0, fun i h => absurd h (Nat.not_lt_zero i), fun i _ h => absurd h (Nat.not_lt_zero i), fun x h => absurd h (Nat.not_lt_zero x)⟩
  | n + 1 => by
    obtain ⟨f, h1, h2, h3⟩ := enum p n
    cases hp : p n with
    | false =>
      have e : sm (fun k => (p k).toNat) (n + 1) = sm (fun k => (p k).toNat) n := by
        show sm (fun k => (p k).toNat) n + (p n).toNat = _
        rw [hp]; rfl
      rw [e]
      refine ⟨f, fun i hi => ⟨by have := (h1 i hi).1; omega, (h1 i hi).2⟩, h2, fun x hx hpx => ?_⟩
      by_cases en : x = n
      · rw [en, hp] at hpx; cases hpx
      · exact h3 x (by omega) hpx
    | true =>
      have e : sm (fun k => (p k).toNat) (n + 1) = sm (fun k => (p k).toNat) n + 1 := by
        show sm (fun k => (p k).toNat) n + (p n).toNat = _
        rw [hp]; rfl
      rw [e]
      generalize sm (fun k => (p k).toNat) n = m at h1 h2 h3 ⊢
      refine ⟨fun i => if i = m then n else f i, ?_, ?_, ?_⟩
      · intro i hi
        show (if i = m then n else f i) < n + 1 ∧ p (if i = m then n else f i) = true
        by_cases ei : i = m
        · rw [if_pos ei]; exact ⟨by omega, hp⟩
        · rw [if_neg ei]
          have := h1 i (by omega)
          exact ⟨by omega, this.2⟩
      · intro i j hi hj
        show (if i = m then n else f i) = (if j = m then n else f j) → i = j
        by_cases ei : i = m
        · by_cases ej : j = m
          · intro _; omega
          · rw [if_pos ei, if_neg ej]
            intro z
            have := (h1 j (by omega)).1
            omega
        · by_cases ej : j = m
          · rw [if_neg ei, if_pos ej]
            intro z
            have := (h1 i (by omega)).1
            omega
          · rw [if_neg ei, if_neg ej]
            exact h2 i j (by omega) (by omega)
      · intro x hx hpx
        by_cases en : x = n
        · exact ⟨m, by omega, by show (if m = m then n else f m) = x; rw [if_pos rfl, en]⟩
        · obtain ⟨i, hi, e⟩ := h3 x (by omega) hpx
          exact ⟨i, by omega, by show (if i = m then n else f i) = x; rw [if_neg (by omega), e]⟩
/-- hanging together -/
def Kn (n : Nat) (N : Nat → Nat) (r x : Nat) : Prop := ∀ p : Nat → Bool, p r = true → (∀ i j, i < n → j < n → p i = true → nr N i j = true → p j = true) → p x = true
theorem Kn.rfl' (r : Nat) : Kn n N r r := fun _ h _ => h
theorem Kn.tr {a b c : Nat} (h1 : Kn n N a b) (h2 : Kn n N b c) : Kn n N a c := fun p h hc => h2 p (h1 p h hc) hc
theorem Kn.one {a b : Nat} (ha : a < n) (hb : b < n) (h : nr N a b = true) : Kn n N a b := fun p hp hc => hc a b ha hb hp h
theorem Kn.lt (G : GW n N) {r x : Nat} (hr : r < n) (h : Kn n N r x) : x < n := by
  have := h (fun y => decide (y < n)) (decide_eq_true hr) (fun i j _ hj _ _ => decide_eq_true hj)
  exact of_decide_eq_true this
theorem Kn.sy (G : GW n N) {r x : Nat} (h : Kn n N r x) : Kn n N x r := by
  have := h (fun y => @decide (Kn n N y r) (Classical.propDecidable _)) (@decide_eq_true _ (Classical.propDecidable _) (Kn.rfl' r)) (fun i j hi hj h1 h2 => by
    have h3 := @of_decide_eq_true _ (Classical.propDecidable _) h1
    exact @decide_eq_true _ (Classical.propDecidable _) (Kn.tr (Kn.one hj hi (by rw [nr_symm G]; exact h2)) h3))
  exact @of_decide_eq_true _ (Classical.propDecidable _) this
/-- a room with most doors -/
theorem most (r : Nat) : ∃ v, Kn n N r v ∧ ∀ x, Kn n N r x → pc (N x) ≤ pc (N v) := by
  have key : ∀ d v, Kn n N r v → 9 - pc (N v) ≤ d → ∃ v, Kn n N r v ∧ ∀ x, Kn n N r x → pc (N x) ≤ pc (N v) := by
    intro d
    induction d with
    | zero =>
      intro v hv h
      exact ⟨v, hv, fun x _ => by have := pc_le (N x); omega⟩
    | succ d ih =>
      intro v hv h
      rcases Classical.em (∃ x, Kn n N r x ∧ pc (N v) < pc (N x)) with ⟨x, hx, hlt⟩ | hno
      · exact ih x hx (by have := pc_le (N x); omega)
      · exact ⟨v, hv, fun x hx => by
          rcases Nat.lt_or_ge (pc (N v)) (pc (N x)) with h1 | h1
          · exact absurd ⟨x, hx, h1⟩ hno
          · exact h1⟩
  exact key 9 r (Kn.rfl' r) (by omega)
/-- the rooms that hang together with r, in a row; the first has most doors, and behind it come its neighbours -/
theorem row (G : GW n N) {r : Nat} (hr : r < n) : ∃ (m D : Nat) (f : Nat → Nat), D < m ∧ (∀ i, i < m → Kn n N r (f i)) ∧ (∀ i j, i < m → j < m → f i = f j → i = j) ∧ (∀ x, Kn n N r x → ∃ i, i < m ∧ f i = x) ∧ (∀ x, Kn n N r x → pc (N x) ≤ D) ∧ ∀ j, 1 ≤ j → j < m → ((N (f 0)).testBit (f j) = true ↔ j ≤ D) := by
  obtain ⟨v, hv, hmax⟩ := most (n := n) (N := N) r
  have hvn := Kn.lt G hr hv
  have h9 := G.n9
  obtain ⟨p2, p2i, p2m⟩ : ∃ p2 : Nat → Bool, (∀ x, p2 x = true → Kn n N r x ∧ x ≠ v ∧ (N v).testBit x = false) ∧ ∀ x, Kn n N r x ∧ x ≠ v ∧ (N v).testBit x = false → p2 x = true :=
    ⟨fun x => @decide (Kn n N r x ∧ x ≠ v ∧ (N v).testBit x = false) (Classical.propDecidable _), fun x h => @of_decide_eq_true _ (Classical.propDecidable _) h, fun x h => @decide_eq_true _ (Classical.propDecidable _) h⟩
  obtain ⟨f1, a1, a2, a3⟩ : ∃ f : Nat → Nat, (∀ i, i < sm (fun k => ((N v).testBit k).toNat) 9 → f i < 9 ∧ (N v).testBit (f i) = true) ∧ (∀ i j, i < sm (fun k => ((N v).testBit k).toNat) 9 → j < sm (fun k => ((N v).testBit k).toNat) 9 → f i = f j → i = j) ∧ ∀ x, x < 9 → (N v).testBit x = true → ∃ i, i < sm (fun k => ((N v).testBit k).toNat) 9 ∧ f i = x := enum (fun k => (N v).testBit k) 9
  obtain ⟨f2, b1, b2, b3⟩ := enum p2 9
  have eD : sm (fun k => ((N v).testBit k).toNat) 9 = pc (N v) := (pc_sm (N v)).symm
  rw [eD] at a1 a2 a3
  generalize hm2 : sm (fun k => (p2 k).toNat) 9 = m2 at b1 b2 b3
  generalize hD : pc (N v) = D at a1 a2 a3 hmax
  have k1 : ∀ i, i < D → Kn n N r (f1 i) := fun i hi => by
    have h1 := (a1 i hi).2
    exact Kn.tr hv (Kn.one hvn (G.tb h1).2 (by unfold nr; rw [h1, Bool.or_true]))
  have kv : ∀ i, i < D → f1 i ≠ v := fun i hi z => by
    have h1 := (a1 i hi).2
    rw [z, G.2.2.2.2.2 v] at h1
    cases h1
  obtain ⟨f, f_0, f_1, f_2⟩ : ∃ f : Nat → Nat, f 0 = v ∧ (∀ i, 1 ≤ i → i ≤ D → f i = f1 (i - 1)) ∧ ∀ i, D < i → f i = f2 (i - 1 - D) := by
    refine ⟨fun i => if i = 0 then v else if i ≤ D then f1 (i - 1) else f2 (i - 1 - D), if_pos rfl, fun i h1 h2 => ?_, fun i h1 => ?_⟩
    · show (if i = 0 then v else if i ≤ D then f1 (i - 1) else f2 (i - 1 - D)) = _
      rw [if_neg (by omega), if_pos h2]
    · show (if i = 0 then v else if i ≤ D then f1 (i - 1) else f2 (i - 1 - D)) = _
      rw [if_neg (by omega), if_neg (by omega)]
  refine ⟨1 + D + m2, D, f, by omega, ?_, ?_, ?_, hmax, ?_⟩
  · intro i hi
    by_cases h0 : i = 0
    · rw [h0, f_0]; exact hv
    · by_cases h1 : i ≤ D
      · rw [f_1 i (by omega) h1]; exact k1 (i - 1) (by omega)
      · rw [f_2 i (by omega)]; exact (p2i _ (b1 (i - 1 - D) (by omega)).2).1
  · have asy : ∀ i j, i < 1 + D + m2 → j < 1 + D + m2 → i < j → f i ≠ f j := by
      intro i j hi hj hij z
      by_cases h0 : i = 0
      · rw [h0, f_0] at z
        by_cases h1 : j ≤ D
        · rw [f_1 j (by omega) h1] at z
          exact kv (j - 1) (by omega) z.symm
        · rw [f_2 j (by omega)] at z
          exact (p2i _ (b1 (j - 1 - D) (by omega)).2).2.1 z.symm
      · by_cases h1 : j ≤ D
        · rw [f_1 j (by omega) h1, f_1 i (by omega) (by omega)] at z
          have := a2 (i - 1) (j - 1) (by omega) (by omega) z
          omega
        · rw [f_2 j (by omega)] at z
          by_cases h2 : i ≤ D
          · rw [f_1 i (by omega) h2] at z
            have h3 := (p2i _ (b1 (j - 1 - D) (by omega)).2).2.2
            rw [← z, (a1 (i - 1) (by omega)).2] at h3
            cases h3
          · rw [f_2 i (by omega)] at z
            have := b2 (i - 1 - D) (j - 1 - D) (by omega) (by omega) z
            omega
    intro i j hi hj z
    rcases Nat.lt_trichotomy i j with h | h | h
    · exact absurd z (asy i j hi hj h)
    · exact h
    · exact absurd z.symm (asy j i hj hi h)
  · intro x hx
    have hxn := Kn.lt G hr hx
    by_cases e : x = v
    · exact ⟨0, by omega, by rw [f_0, e]⟩
    · cases hb : (N v).testBit x with
      | true =>
        obtain ⟨i, hi, e1⟩ := a3 x (by omega) hb
        exact ⟨i + 1, by omega, by rw [f_1 (i + 1) (by omega) (by omega), show i + 1 - 1 = i by omega, e1]⟩
      | false =>
        obtain ⟨i, hi, e1⟩ := b3 x (by omega) (p2m x ⟨hx, e, hb⟩)
        exact ⟨i + 1 + D, by omega, by rw [f_2 (i + 1 + D) (by omega), show i + 1 + D - 1 - D = i by omega, e1]⟩
  · intro j h1 hj
    rw [f_0]
    by_cases h2 : j ≤ D
    · rw [f_1 j h1 h2]
      exact ⟨fun _ => h2, fun _ => (a1 (j - 1) (by omega)).2⟩
    · rw [f_2 j (by omega)]
      refine ⟨fun h => ?_, fun h => absurd h h2⟩
      rw [(p2i _ (b1 (j - 1 - D) (by omega)).2).2.2] at h
      cases h
end
