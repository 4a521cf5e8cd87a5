/-! THE SEARCH: a sweep is sound. -/
section
theorem sM1_lt : sM1 < 2 ^ 729 := by decide +kernel
theorem sM2_lt : sM2 < 2 ^ 729 := by decide +kernel
theorem sM1_all : ∀ i, i < 729 → sM1.testBit i = true → i % 9 = 0 := by decide +kernel
theorem sM2_all : ∀ i, i < 729 → sM2.testBit i = true → i % 81 < 9 := by decide +kernel
theorem sF81_eq : sF81 = 2 ^ 81 - 1 := by decide +kernel
theorem sF729_eq : sF729 = 2 ^ 729 - 1 := by decide +kernel
theorem lt_of_tb {x i k : Nat} (hx : x < 2 ^ k) (h : x.testBit i = true) : i < k := by
  rcases Nat.lt_or_ge i k with h1 | h1
  · exact h1
  · rw [Nat.testBit_lt_two_pow (Nat.lt_of_lt_of_le hx (Nat.pow_le_pow_right (by decide) h1))] at h; cases h
theorem sM1_tb {i : Nat} (h : sM1.testBit i = true) : i % 9 = 0 := sM1_all i (lt_of_tb sM1_lt h) h
theorem sM2_tb {i : Nat} (h : sM2.testBit i = true) : i % 81 < 9 := sM2_all i (lt_of_tb sM2_lt h) h
theorem or9_tb {f : Nat → Nat} {j : Nat} : (or9 f).testBit j = true ↔ ∃ q, q < 9 ∧ (f q).testBit j = true := by
  unfold or9
  simp only [Nat.testBit_or, Bool.or_eq_true]
  constructor
  · rintro ((((((((h | h) | h) | h) | h) | h) | h) | h) | h)
    · exact ⟨0, by decide, h⟩
    · exact ⟨1, by decide, h⟩
    · exact ⟨2, by decide, h⟩
    · exact ⟨3, by decide, h⟩
    · exact ⟨4, by decide, h⟩
    · exact ⟨5, by decide, h⟩
    · exact ⟨6, by decide, h⟩
    · exact ⟨7, by decide, h⟩
    · exact ⟨8, by decide, h⟩
  · rintro ⟨q, hq, h⟩
    have hq' : q = 0 ∨ q = 1 ∨ q = 2 ∨ q = 3 ∨ q = 4 ∨ q = 5 ∨ q = 6 ∨ q = 7 ∨ q = 8 := by omega
    rcases hq' with rfl | rfl | rfl | rfl | rfl | rfl | rfl | rfl | rfl <;> simp [h]
theorem colB_tb {X R b j : Nat} (h : (colB X R b).testBit j = true) : X.testBit (9 * (j / 9) + b) = true ∧ R.testBit (9 * b + j % 9) = true := by
  unfold colB at h
  rw [mul01 (c := 9) (by decide) (fun i hi => by
    rw [Nat.testBit_and, Bool.and_eq_true] at hi
    exact sM1_tb hi.2) (Nat.lt_of_le_of_lt Nat.and_le_right (by decide)), Bool.and_eq_true, Nat.testBit_and, Nat.testBit_and, Bool.and_eq_true, Bool.and_eq_true, Nat.testBit_shiftRight, Nat.testBit_shiftRight] at h
  rw [Nat.add_comm (9 * (j / 9)) b]
  exact ⟨h.1.1, h.2.1⟩
theorem colA_tb {Y R a j : Nat} (hR : ∀ k, R.testBit k = true → k % 9 = 0) (h : (colA Y R a).testBit j = true) : Y.testBit (81 * (j / 81) + 9 * a + j % 9) = true ∧ R.testBit (81 * a + 9 * (j % 81 / 9)) = true := by
  unfold colA at h
  generalize hy : (R >>> (81 * a)) &&& sF81 = y at h
  generalize hx : (Y >>> (9 * a)) &&& sM2 = x at h
  have y1 : y < 2 ^ 81 := by rw [← hy]; exact Nat.lt_of_le_of_lt Nat.and_le_right (by rw [sF81_eq]; decide)
  have yt : ∀ i, y.testBit i = true → R.testBit (81 * a + i) = true := fun i hi => by
    rw [← hy, Nat.testBit_and, Bool.and_eq_true, Nat.testBit_shiftRight] at hi
    exact hi.1
  have y2 : ∀ i, y.testBit i = true → i % 9 = 0 := fun i hi => by
    have := hR _ (yt i hi)
    omega
  have xt : ∀ i, x.testBit i = true → Y.testBit (9 * a + i) = true ∧ i % 81 < 9 := fun i hi => by
    rw [← hx, Nat.testBit_and, Bool.and_eq_true, Nat.testBit_shiftRight] at hi
    exact ⟨hi.1, sM2_tb hi.2⟩
  have dt : ∀ k i, (x / 2 ^ (81 * k) % 2 ^ 81).testBit i = true → i < 9 ∧ x.testBit (i + 81 * k) = true := fun k i hi => by
    rw [Nat.testBit_mod_two_pow, Nat.testBit_div_two_pow, Bool.and_eq_true] at hi
    have h1 := of_decide_eq_true hi.1
    have h2 := (xt _ hi.2).2
    rw [Nat.add_mul_mod_self_left, Nat.mod_eq_of_lt h1] at h2
    exact ⟨h2, hi.2⟩
  have d9 : ∀ k, x / 2 ^ (81 * k) % 2 ^ 81 < 2 ^ 9 := fun k => Nat.lt_pow_two_of_testBit _ (fun i hi => by
    cases hc : (x / 2 ^ (81 * k) % 2 ^ 81).testBit i with
    | false => rfl
    | true => have := (dt k i hc).1; omega)
  have pr : ∀ k i, (x / 2 ^ (81 * k) % 2 ^ 81 * y).testBit i = (y.testBit (9 * (i / 9)) && (x / 2 ^ (81 * k) % 2 ^ 81).testBit (i % 9)) := fun k i => by
    rw [Nat.mul_comm]; exact mul01 (by decide) y2 (d9 k) i
  rw [mulG (c := 81) (by decide) j x (fun k => Nat.lt_pow_two_of_testBit _ (fun i hi => by
    rw [pr k i]
    cases hc : y.testBit (9 * (i / 9)) with
    | false => rfl
    | true => have := lt_of_tb y1 hc; omega)), pr, Bool.and_eq_true] at h
  have h1 := dt _ _ h.2
  have h2 := (xt _ h1.2).1
  have h3 := yt _ h.1
  refine ⟨?_, h3⟩
  rw [show 81 * (j / 81) + 9 * a + j % 9 = 9 * a + (j % 81 % 9 + 81 * (j / 81)) by omega]
  exact h2
theorem colR_tb {X R q r p : Nat} (hR : ∀ k, R.testBit k = true → k % 81 = 0) (hq : q < 9) (hr : r < 9) (hp : p < 81) (h1 : R.testBit (729 * q + 81 * r) = true) (h2 : X.testBit (81 * q + p) = true) : (colR X R q).testBit (81 * r + p) = true := by
  unfold colR
  rw [Nat.mul_comm, mul01 (c := 81) (by decide) (fun i hi => by
    rw [Nat.testBit_and, Bool.and_eq_true, Nat.testBit_shiftRight] at hi
    have := hR _ hi.1
    omega) (Nat.lt_of_le_of_lt Nat.and_le_right (by rw [sF81_eq]; decide))]
  rw [show 81 * ((81 * r + p) / 81) = 81 * r by omega, show (81 * r + p) % 81 = p by omega]
  rw [Nat.testBit_and, Nat.testBit_and, Nat.testBit_shiftRight, Nat.testBit_shiftRight, h1, h2, sF81_eq, sF729_eq, Nat.testBit_two_pow_sub_one, Nat.testBit_two_pow_sub_one, decide_eq_true hp, decide_eq_true (show 81 * r < 729 by omega)]
  rfl
theorem robS_tb {C W MA j : Nat} (hR : ∀ k, MA.testBit k = true → k % 81 = 0) (hj : j < 729) (h : (robS C W MA).testBit j = true) : C.testBit j = true ∨ ∀ q, q < 9 → MA.testBit (729 * q + 81 * (j / 81)) = true → W.testBit (81 * q + j % 81) = true := by
  unfold robS at h
  rw [Nat.testBit_or, Bool.or_eq_true] at h
  rcases h with h | h
  · right
    intro q hq hm
    rw [Nat.testBit_xor, sF729_eq, Nat.testBit_two_pow_sub_one, decide_eq_true hj, Bool.true_xor, Bool.not_eq_true'] at h
    cases hc : W.testBit (81 * q + j % 81) with
    | true => rfl
    | false =>
      have h1 : (2 ^ 729 - 1 ^^^ W).testBit (81 * q + j % 81) = true := by
        rw [Nat.testBit_xor, Nat.testBit_two_pow_sub_one, hc, decide_eq_true (show 81 * q + j % 81 < 729 by omega)]; rfl
      have h2 := colR_tb (X := 2 ^ 729 - 1 ^^^ W) hR hq (show j / 81 < 9 by omega) (show j % 81 < 81 by omega) hm h1
      rw [show 81 * (j / 81) + j % 81 = j by omega] at h2
      have h3 := or9_tb.mpr ⟨q, hq, h2⟩
      rw [h3] at h; cases h
  · exact Or.inl h
variable {m t : Nat} {N : Nat → Nat}
/-- the graph lies between must and may -/
def Con (N : Nat → Nat) (MU MX MA : Nat) : Prop := (∀ k, MU.testBit k = true → nr N (k / 9) (k % 9) = true) ∧ (∀ k, MX.testBit k = true → k % 9 = 0 ∧ nr N (k / 81) (k % 81 / 9) = true) ∧ (∀ k, MA.testBit k = true → k % 81 = 0) ∧ ∀ i j, i < 9 → j < 9 → nr N i j = true → MA.testBit (729 * i + 81 * j) = true
/-- the word tells no lies -/
def Wok (m : Nat) (N : Nat → Nat) (t W : Nat) : Prop := ∀ k, k < 729 → k / 81 < m → W.testBit k = true → k % 81 / 9 < m ∧ k % 9 < m ∧ wc m N t (k % 81 / 9) (k % 9) (k / 81) = true
def Cok (m C : Nat) : Prop := ∀ k, k < 729 → C.testBit k = true → k % 81 / 9 < m ∧ k % 9 < m ∧ (k % 81 / 9 = k / 81 ∨ k % 9 = k / 81)
theorem swp_sound {C MU MX MA W : Nat} (G : GW m N) (hC : Con N MU MX MA) (hc : Cok m C) (hW : Wok m N t W) : Wok m N (t + 1) (swp C MU MX MA W) := by
  obtain ⟨c1, c2, c3, c4⟩ := hC
  have hm := G.n9
  intro k hk hr h
  unfold swp at h
  obtain ⟨a0, ha0, h1⟩ := or9_tb.mp h
  obtain ⟨h2, h3⟩ := colA_tb (fun k hk => (c2 k hk).1) h1
  obtain ⟨b0, hb0, h4⟩ := or9_tb.mp h2
  obtain ⟨h5, h6⟩ := colB_tb h4
  have n1 := (c2 _ h3).2
  have n2 := c1 _ h6
  rw [show (81 * a0 + 9 * (k % 81 / 9)) / 81 = a0 by omega, show (81 * a0 + 9 * (k % 81 / 9)) % 81 / 9 = k % 81 / 9 by omega] at n1
  rw [show (9 * b0 + (81 * (k / 81) + 9 * a0 + k % 9) % 9) / 9 = b0 by omega, show (9 * b0 + (81 * (k / 81) + 9 * a0 + k % 9) % 9) % 9 = k % 9 by omega] at n2
  rw [show 9 * ((81 * (k / 81) + 9 * a0 + k % 9) / 9) + b0 = 81 * (k / 81) + 9 * a0 + b0 by omega] at h5
  have h7 := robS_tb c3 (show 81 * (k / 81) + 9 * a0 + b0 < 729 by omega) h5
  have e1 : (81 * (k / 81) + 9 * a0 + b0) / 81 = k / 81 := by omega
  have e2 : (81 * (k / 81) + 9 * a0 + b0) % 81 / 9 = a0 := by omega
  have e3 : (81 * (k / 81) + 9 * a0 + b0) % 9 = b0 := by omega
  have e4 : (81 * (k / 81) + 9 * a0 + b0) % 81 = 9 * a0 + b0 := by omega
  have main : a0 < m ∧ b0 < m ∧ rbB m N (wc m N t) a0 b0 (k / 81) = true := by
    rcases h7 with h7 | h7
    · have := hc _ (by omega) h7
      rw [e1, e2, e3] at this
      exact ⟨this.1, this.2.1, rb_iff.mpr (Or.inl this.2.2)⟩
    · rw [e1, e4] at h7
      have w : ∀ x, x < m → nr N (k / 81) x = true → a0 < m ∧ b0 < m ∧ wc m N t a0 b0 x = true := fun x hx hn => by
        have := hW (81 * x + (9 * a0 + b0)) (by omega) (by omega) (h7 x (by omega) (c4 x (k / 81) (by omega) (by omega) (by rw [nr_symm G]; exact hn)))
        rw [show (81 * x + (9 * a0 + b0)) / 81 = x by omega, show (81 * x + (9 * a0 + b0)) % 81 / 9 = a0 by omega, show (81 * x + (9 * a0 + b0)) % 9 = b0 by omega] at this
        exact this
      have w0 := w (k / 81) hr (nr_self N _)
      exact ⟨w0.1, w0.2.1, rb_iff.mpr (Or.inr (fun x hx hn => (w x hx hn).2.2))⟩
  refine ⟨nr_lt G main.1 n1, nr_lt G main.2.1 n2, wc_succ.mpr (Or.inr ⟨a0, main.1, by rw [nr_symm G]; exact n1, b0, by omega, by rw [nr_symm G]; exact n2, main.2.2⟩)⟩
end
