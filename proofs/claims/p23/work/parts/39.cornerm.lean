/-! CORNERS: class and reference. -/
section
variable {E : Nat × (Nat → Int32)} {w : Wd} {d n : Nat} {N : Nat → Nat}
theorem sp53 {a L : Nat} (hd : 2 ≤ d) (hR : GR w n N) (G : GW n N) (ha : a < n) (hL : L < 2 ^ n) : Ev d 53 (ent0 53 [.ref 2, .int (I a), .int (I L)] (hp E w)) (.inl (some (.int (bI (cnB n N L a)))), hp E w) := by
  have hn := G.n9
  have h512 := Nat.lt_of_lt_of_le hL (two_pow_le hn)
  have hA : (N a ||| 2 ^ a) &&& L < 512 := Nat.and_lt_two_pow (n := 9) _ h512
  have key := down (n := n) (Q := fun j => (∀ b, b < j → (decide (b ≠ a) && (L.testBit b && dmB N L a b)) = false) → ∀ u, Ev d 53 (11, [.ref 2, .int (I a), .int (I L), .int (I ((N a ||| 2 ^ a) &&& L)), .int (I j), u], [], hp E w) (.inl (some (.int (bI (cnB n N L a)))), hp E w)) (fun j hj e hno u => ?_) (fun hno u => ?_) 0 (Nat.zero_le _)
  · exact p53_e_a (by omega) (sp47 (by omega) hR (by omega)) (I_and _ _) (key (fun b hb => by omega) _)
  · have go : (decide (j ≠ a) && (L.testBit j && dmB N L a j)) = false → ∀ u, Ev d 53 (11, [.ref 2, .int (I a), .int (I L), .int (I ((N a ||| 2 ^ a) &&& L)), .int (I (j + 1)), u], [], hp E w) (.inl (some (.int (bI (cnB n N L a)))), hp E w) := fun hj2 u => e (fun b hb => by
      by_cases h : b = j
      · subst h; exact hj2
      · exact hno b (by omega)) u
    by_cases h1 : j = a
    · exact p53_11_d (lt_n hR.1 hn hj) (by rw [h1]) (I_add _ _) (go (by simp [h1]) _)
    · have h1' : ¬ I j = I a := fun z => h1 ((I_inj (by omega) (by omega)).mp z)
      cases h2 : L.testBit j with
      | false => exact p53_11_c (lt_n hR.1 hn hj) h1' (bit0F (by omega) (by omega) h2) (I_add _ _) (go (by rw [h2]; simp) _)
      | true =>
        have hz : (I ((N a ||| 2 ^ a) &&& L) &&& (I (N j ||| 2 ^ j) ^^^ (-1 : Int32))) = I (nd ((N a ||| 2 ^ a) &&& L) (N j ||| 2 ^ j)) := I_nd _ hA
        have hlt : nd ((N a ||| 2 ^ a) &&& L) (N j ||| 2 ^ j) < 512 := nd_lt hA
        cases h3 : dmB N L a j with
        | true =>
          rw [show cnB n N L a = true from anyB_iff.mpr ⟨j, hj, by rw [h2, h3]; simp [h1]⟩]
          exact p53_11_a (by omega) (lt_n hR.1 hn hj) h1' (bit0T (by omega) (by omega) h2) (sp47 (by omega) hR (by omega)) (by rw [hz, of_decide_eq_true h3]; rfl)
        | false =>
          exact p53_11_b (by omega) (lt_n hR.1 hn hj) h1' (bit0T (by omega) (by omega) h2) (sp47 (by omega) hR (by omega)) (fun z => by
            rw [hz] at z
            exact of_decide_eq_false h3 ((I_inj (by omega) (by omega)).mp (show I _ = I 0 from z))) (I_add _ _) (go (by rw [h3]; simp) _)
  · rw [show cnB n N L a = false from anyB_false.mpr hno]
    exact p53_11_e (nlt_n hR.1 hn (Nat.le_refl _) (by omega))
def lcI (n : Nat) (N : Nat → Nat) (L : Nat) : Int32 := if lcr n N L = n then -1 else I (lcr n N L)
theorem sp52 {L : Nat} (hd : 3 ≤ d) (hR : GR w n N) (G : GW n N) (hL : L < 2 ^ n) : Ev d 52 (ent0 52 [.ref 2, .int (I L)] (hp E w)) (.inl (some (.int (lcI n N L))), hp E w) := by
  have hn := G.n9
  have h512 := Nat.lt_of_lt_of_le hL (two_pow_le hn)
  have key : ∀ m j, j + m = n → Ev d 52 (2, [.ref 2, .int (I L), .int (I j)], [], hp E w) (.inl (some (.int (if ff (fun a => L.testBit a && cnB n N L a) m j = n then -1 else I (ff (fun a => L.testBit a && cnB n N L a) m j)))), hp E w) := by
    intro m
    induction m with
    | zero =>
      intro j hj
      have : j = n := by omega
      subst this
      rw [show ff (fun a => L.testBit a && cnB j N L a) 0 j = j from rfl, if_pos rfl]
      exact p52_2_d (nlt_n hR.1 hn (Nat.le_refl _) (by omega))
    | succ m ih =>
      intro j hj
      have hjn : j < n := by omega
      have h3 := sp53 (E := E) (d := d - 1) (by omega) hR G hjn hL
      cases h1 : L.testBit j with
      | false =>
        rw [ff_F (show (L.testBit j && cnB n N L j) = false by rw [h1]; rfl)]
        exact p52_2_c (lt_n hR.1 hn hjn) (bit0F (by omega) (by omega) h1) (I_add j 1) (ih (j + 1) (by omega))
      | true =>
        cases h2 : cnB n N L j with
        | true =>
          rw [h2] at h3
          rw [ff_T (show (L.testBit j && cnB n N L j) = true by rw [h1, h2]; rfl), if_neg (by omega)]
          exact p52_2_a (by omega) (lt_n hR.1 hn hjn) (bit0T (by omega) (by omega) h1) h3 (by decide)
        | false =>
          rw [h2] at h3
          rw [ff_F (show (L.testBit j && cnB n N L j) = false by rw [h2, Bool.and_false])]
          exact p52_2_b (by omega) (lt_n hR.1 hn hjn) (bit0T (by omega) (by omega) h1) h3 rfl (I_add j 1) (ih (j + 1) (by omega))
  exact p52_e_a (key n 0 (by omega))
theorem sp51l (hd : 4 ≤ d) (hR : GR w n N) (G : GW n N) : ∀ k t L u, t + k = n → L < 2 ^ n → Ev d 51 (7, [.ref 2, .int (I L), .int (I t), u], [], hp E w) (.inl (some (.int (bI (cgB n N k L)))), hp E w)
  | 0, t, L, u, ht, hL => p51_7_c (nlt_n hR.1 G.n9 (by omega) (by have := G.n9; omega))
  | k + 1, t, L, u, ht, hL => by
    have hn := G.n9
    have h512 := Nat.lt_of_lt_of_le hL (two_pow_le hn)
    have h1 := sp52 (E := E) (d := d - 1) (by omega) hR G hL
    unfold cgB
    unfold lcI at h1
    by_cases h : lcr n N L = n
    · rw [if_pos h] at h1 ⊢
      exact p51_7_a (by omega) (lt_n hR.1 hn (by omega)) h1 rfl
    · obtain ⟨h2, h3⟩ := lcr_some hn hL h
      rw [if_neg h] at h1 ⊢
      refine p51_7_b (by omega) (lt_n hR.1 hn (by omega)) h1 (I_ne_m1 (by omega)) ?_ (I_add t 1) (sp51l hd hR G k (t + 1) (rm L (lcr n N L)) _ (by omega) (rm_lt hL))
      rw [I_pow (by omega), I_nd _ h512]
      rfl
theorem sp51 (hd : 4 ≤ d) (hR : GR w n N) (G : GW n N) : Ev d 51 (ent0 51 [.ref 2] (hp E w)) (.inl (some (.int (bI (faB n N)))), hp E w) := by
  have h1 := G.n1
  have h1p := Nat.one_le_two_pow (n := n)
  exact p51_e_a (by omega) (sp42 hR G) (sp51l hd hR G (n - 1) 1 (2 ^ n - 1) jk (by omega) (by omega))
/-! reference -/
theorem nd_and {A B L : Nat} (hA : A &&& L < 512) (hB : B < 512) : nd (A &&& L) (B &&& L) = nd (A &&& L) B := by
  apply Nat.eq_of_testBit_eq
  intro i
  rw [tb_nd hA, tb_nd hA, Nat.testBit_and, Nat.testBit_and]
  cases L.testBit i <;> simp
def xk (k : Nat) : Int32 := if k = 0 then -1 else I (k - 1)
theorem xk_succ (k : Nat) : xk (k + 1) = I k := rfl
theorem xk_dec (k : Nat) : I k + (-1 : Int32) = xk k := by
  cases k with
  | zero => rfl
  | succ k => exact I_dec k
theorem cnB_Cn (G : GW n N) {L a : Nat} (hL : L < 2 ^ n) : (L.testBit a = true ∧ cnB n N L a = true) ↔ Cn N L a := by
  rw [cnB_iff G.n9 hL]
  exact Iff.rfl
end
