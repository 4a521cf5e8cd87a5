/-! THE CHASE, reference: three loops, one inside the other; what a filled table holds. -/
section
theorem loop3 {St : Type} {n fb lb : Nat} (hn : n ≤ 9) (hl : lb ≤ 9) (hfl : fb ≤ lb) {Base : St → Prop} {cond : St → Nat → Nat → Nat → Prop} {K1 : St → Nat → Prop} {K2 : St → Nat → Nat → Prop} {K3 : St → Nat → Nat → Nat → Prop}
    (e1 : ∀ s, Base s → (∀ a b r, a < n → fb ≤ b → b ≤ lb → r < n → cond s a b r) → K1 s n)
    (f1 : ∀ s a, a < n → K2 s a fb → K1 s a)
    (f2 : ∀ s a b, a < n → fb ≤ b → b ≤ lb → K3 s a b 0 → K2 s a b)
    (f2e : ∀ s a, a < n → K1 s (a + 1) → K2 s a (lb + 1))
    (f3 : ∀ s a b r, a < n → fb ≤ b → b ≤ lb → r < n → Base s → (∀ a' b' r', a' < n → fb ≤ b' → b' ≤ lb → r' < n → cl a' b' r' < cl a b r → cond s a' b' r') → (∀ s', Base s' → (∀ a' b' r', a' < n → fb ≤ b' → b' ≤ lb → r' < n → cl a' b' r' < cl a b r → cond s' a' b' r') → cond s' a b r → K3 s' a b (r + 1)) → K3 s a b r)
    (f3e : ∀ s a b, a < n → fb ≤ b → b ≤ lb → K2 s a (b + 1) → K3 s a b n)
    (s : St) (hB : Base s) : K1 s 0 := by
  have key := down (n := n) (Q := fun a => ∀ s, Base s → (∀ a' b' r', a' < n → fb ≤ b' → b' ≤ lb → r' < n → cl a' b' r' < cl a fb 0 → cond s a' b' r') → K1 s a) (fun a ha e s hB h => ?_) (fun s hB h => ?_) 0 (Nat.zero_le _)
  · exact key s hB (fun a' b' r' h1 h2 h3 h4 h5 => by unfold cl at h5; omega)
  · refine f1 s a ha ?_
    have k2 := down (n := lb + 1) (Q := fun b => fb ≤ b → ∀ s, Base s → (∀ a' b' r', a' < n → fb ≤ b' → b' ≤ lb → r' < n → cl a' b' r' < cl a b 0 → cond s a' b' r') → K2 s a b) (fun b hb e2 hfb s hB h => ?_) (fun hfb s hB h => ?_) fb (by omega) (Nat.le_refl _)
    · exact k2 s hB h
    · have hbl : b ≤ lb := by omega
      refine f2 s a b ha hfb hbl ?_
      have k3 := down (n := n) (Q := fun r => ∀ s, Base s → (∀ a' b' r', a' < n → fb ≤ b' → b' ≤ lb → r' < n → cl a' b' r' < cl a b r → cond s a' b' r') → K3 s a b r) (fun r hr e3 s hB h => ?_) (fun s hB h => ?_) 0 (Nat.zero_le _)
      · exact k3 s hB h
      · refine f3 s a b r ha hfb hbl hr hB h (fun s' hB' h' hc => e3 s' hB' (fun a' b' r' h1 h2 h3 h4 h5 => ?_))
        by_cases h6 : cl a' b' r' < cl a b r
        · exact h' a' b' r' h1 h2 h3 h4 h6
        · have h7 : cl a' b' r' = cl a b r := by
            have : cl a b (r + 1) = cl a b r + 1 := by unfold cl; omega
            omega
          obtain ⟨rfl, rfl, rfl⟩ := cl_inj (by omega) (by omega) (by omega) (by omega) h7
          exact hc
      · exact f3e s a b ha hfb hbl (e2 (by omega) s hB (fun a' b' r' h1 h2 h3 h4 h5 => h a' b' r' h1 h2 h3 h4 (by unfold cl at *; omega)))
    · exact f2e s a ha (e s hB (fun a' b' r' h1 h2 h3 h4 h5 => h a' b' r' h1 h2 h3 h4 (by unfold cl at *; omega)))
  · exact e1 s hB (fun a b r h1 h2 h3 h4 => h a b r h1 h2 h3 h4 (by unfold cl; omega))
theorem sm_high {f : Nat → Nat} {k v : Nat} : ∀ {m : Nat}, m ≤ k → sm (updN f k v) m = sm f m
  | 0, _ => rfl
  | m + 1, h => by
    show sm (updN f k v) m + updN f k v m = sm f m + f m
    rw [sm_high (by omega)]
    unfold updN
    rw [if_neg (by omega)]
theorem sm_put {f : Nat → Nat} {k v : Nat} : ∀ {m : Nat}, k < m → sm (updN f k v) m + f k = sm f m + v
  | 0, h => by omega
  | m + 1, h => by
    show sm (updN f k v) m + updN f k v m + f k = sm f m + f m + v
    by_cases e : k = m
    · subst e
      rw [sm_high (Nat.le_refl _)]
      unfold updN
      rw [if_pos rfl]
      omega
    · have := sm_put (f := f) (k := k) (v := v) (m := m) (by omega)
      have h2 : updN f k v m = f m := by unfold updN; rw [if_neg (fun z => e z.symm)]
      rw [h2]
      omega
/-- the places of the second cop: a range that its moves keep -/
def RG (n : Nat) (N : Nat → Nat) (fb lb : Nat) : Prop := fb ≤ lb ∧ lb ≤ 9 ∧ (∀ b y, fb ≤ b → b ≤ lb → y < 10 → nr N b y = true → fb ≤ y ∧ y ≤ lb) ∧ (∀ b, fb ≤ b → b ≤ lb → pl n b)
variable {n fb lb : Nat} {N : Nat → Nat}
def SND (n : Nat) (N : Nat → Nat) (fb lb : Nat) (C R : Nat → Nat) : Prop := ∀ a b r, a < n → fb ≤ b → b ≤ lb → r < n → (C (cl a b r) < 99 → wc n N (C (cl a b r)) a b r = true) ∧ (R (cl a b r) < 99 → rbB n N (wc n N (R (cl a b r))) a b r = true)
def CGT (n fb lb : Nat) (C R : Nat → Nat) : Prop := ∀ a b r, a < n → fb ≤ b → b ≤ lb → r < n → (a = r ∨ b = r) → C (cl a b r) = 0 ∧ R (cl a b r) = 0
def fxR (n : Nat) (N : Nat → Nat) (C R : Nat → Nat) (a b r : Nat) : Prop := R (cl a b r) = 0 ∨ ∃ v, isWorst n N C a b r v ∧ R (cl a b r) ≤ v
def fxC (n : Nat) (N : Nat → Nat) (C R : Nat → Nat) (a b r : Nat) : Prop := ∃ v, isLeast n N R a b r v ∧ ¬ (v < 99 ∧ v + 1 < C (cl a b r))
def FIX (n : Nat) (N : Nat → Nat) (fb lb : Nat) (C R : Nat → Nat) : Prop := ∀ a b r, a < n → fb ≤ b → b ≤ lb → r < n → fxR n N C R a b r ∧ fxC n N C R a b r
theorem fix_tau {C R : Nat → Nat} (g : RG n N fb lb) (hS : SND n N fb lb C R) (hC : CGT n fb lb C R) (hF : FIX n N fb lb C R) (hC9 : ∀ i, i < 810 → C i ≤ 99 ∧ R i ≤ 99) (hn : n ≤ 9) {a b r : Nat} (ha : a < n) (h1 : fb ≤ b) (h2 : b ≤ lb) (hr : r < n) : C (cl a b r) = tau n N a b r ∧ R (cl a b r) = rho n N a b r := by
  obtain ⟨g1, g2, g3, g4⟩ := g
  have rbp : ∀ k, (∀ a b r, a < n → fb ≤ b → b ≤ lb → r < n → wc n N k a b r = true → C (cl a b r) ≤ k) → ∀ a b r, a < n → fb ≤ b → b ≤ lb → r < n → rbB n N (wc n N k) a b r = true → R (cl a b r) ≤ k := by
    intro k hk a b r ha h1 h2 hr h
    rcases rb_iff.mp h with hc | hx
    · have := (hC a b r ha h1 h2 hr hc).2; omega
    · rcases (hF a b r ha h1 h2 hr).1 with h0 | ⟨v, ⟨hv1, hv2, hv3⟩, hv⟩
      · omega
      · rcases hv3 with hv3 | ⟨x, hx1, hx2, hx3⟩
        · omega
        · have := hk a b x ha h1 h2 hx1 (hx x hx1 hx2)
          omega
  have wcp : ∀ k, k < 99 → ∀ a b r, a < n → fb ≤ b → b ≤ lb → r < n → wc n N k a b r = true → C (cl a b r) ≤ k := by
    intro k
    induction k with
    | zero =>
      intro _ a b r ha h1 h2 hr h
      have := (hC a b r ha h1 h2 hr (ct_iff.mp h)).1
      omega
    | succ k ih =>
      intro hk a b r ha h1 h2 hr h
      rcases wc_succ.mp h with hc | ⟨x, hx, n1, y, hy, n2, h3⟩
      · have := (hC a b r ha h1 h2 hr hc).1; omega
      · obtain ⟨v, ⟨v1, v2, v3⟩, hv⟩ := (hF a b r ha h1 h2 hr).2
        have hy2 := g3 b y h1 h2 hy n2
        have h4 := rbp k (ih (by omega)) x y r hx hy2.1 hy2.2 hr h3
        have h5 := v2 x y hx hy n1 n2
        rcases Nat.lt_or_ge (v + 1) (C (cl a b r)) with h6 | h6
        · exact absurd ⟨by omega, h6⟩ hv
        · omega
  have hcl := cl_lt (show a < 9 by omega) (show b ≤ 9 by omega) (show r < 9 by omega)
  obtain ⟨s1, s2⟩ := hS a b r ha h1 h2 hr
  obtain ⟨c1, c2⟩ := hC9 _ hcl
  constructor
  · have t1 := tau_le (n := n) (N := N) a b r
    rcases Nat.lt_or_ge (C (cl a b r)) 99 with h | h
    · have t2 := tau_le_of (s1 h)
      have t3 := wcp _ (by omega) a b r ha h1 h2 hr (tau_yes (show tau n N a b r < 99 by omega))
      omega
    · rcases Nat.lt_or_ge (tau n N a b r) 99 with h' | h'
      · have t3 := wcp _ h' a b r ha h1 h2 hr (tau_yes h')
        omega
      · omega
  · have t1 := rho_le (n := n) (N := N) a b r
    rcases Nat.lt_or_ge (R (cl a b r)) 99 with h | h
    · have t2 := rho_le_of (s2 h)
      have t3 := rbp _ (wcp _ (by omega)) a b r ha h1 h2 hr (rho_yes (show rho n N a b r < 99 by omega))
      omega
    · rcases Nat.lt_or_ge (rho n N a b r) 99 with h' | h'
      · have t3 := rbp _ (wcp _ h') a b r ha h1 h2 hr (rho_yes h')
        omega
      · omega
end
