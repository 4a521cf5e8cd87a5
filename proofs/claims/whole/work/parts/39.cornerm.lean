/-! CORNERS: class and reference. -/
section
variable {E : Nat × (Nat → Int32)} {w : Wd} {d n : Nat} {N : Nat → Nat}
theorem sp57 {a L : Nat} (hd : 2 ≤ d) (hR : GR w n N) (G : GW n N) (ha : a < n) (hL : L < 2 ^ n) : Ev d 57 (ent0 57 [.ref 2, .int (I a), .int (I L)] (hp E w)) (.inl (some (.int (bI (cnB n N L a)))), hp E w) := by
  have hn := G.n9
  have h512 := Nat.lt_of_lt_of_le hL (two_pow_le hn)
  have hA : (N a ||| 2 ^ a) &&& L < 512 := Nat.and_lt_two_pow (n := 9) _ h512
  have key := down (n := n) (Q := fun j => (∀ b, b < j → (decide (b ≠ a) && (L.testBit b && dmB N L a b)) = false) → ∀ u, Ev d 57 (11, [.ref 2, .int (I a), .int (I L), .int (I ((N a ||| 2 ^ a) &&& L)), .int (I j), u], [], hp E w) (.inl (some (.int (bI (cnB n N L a)))), hp E w)) (fun j hj e hno u => ?_) (fun hno u => ?_) 0 (Nat.zero_le _)
  · exact p57_e_a (by omega) (sp51 (by omega) hR (by omega)) (I_and _ _) (key (fun b hb => by omega) _)
  · have go : (decide (j ≠ a) && (L.testBit j && dmB N L a j)) = false → ∀ u, Ev d 57 (11, [.ref 2, .int (I a), .int (I L), .int (I ((N a ||| 2 ^ a) &&& L)), .int (I (j + 1)), u], [], hp E w) (.inl (some (.int (bI (cnB n N L a)))), hp E w) := fun hj2 u => e (fun b hb => by
      by_cases h : b = j
      · subst h; exact hj2
      · exact hno b (by omega)) u
    by_cases h1 : j = a
    · exact p57_11_d (lt_n hR.1 hn hj) (by rw [h1]) (I_add _ _) (go (by simp [h1]) _)
    · have h1' : ¬ I j = I a := fun z => h1 ((I_inj (by omega) (by omega)).mp z)
      cases h2 : L.testBit j with
      | false => exact p57_11_c (lt_n hR.1 hn hj) h1' (bit0F (by omega) (by omega) h2) (I_add _ _) (go (by rw [h2]; simp) _)
      | true =>
        have hz : (I ((N a ||| 2 ^ a) &&& L) &&& (I (N j ||| 2 ^ j) ^^^ (-1 : Int32))) = I (nd ((N a ||| 2 ^ a) &&& L) (N j ||| 2 ^ j)) := I_nd _ hA
        have hlt : nd ((N a ||| 2 ^ a) &&& L) (N j ||| 2 ^ j) < 512 := nd_lt hA
        cases h3 : dmB N L a j with
        | true =>
          rw [show cnB n N L a = true from anyB_iff.mpr ⟨j, hj, by rw [h2, h3]; simp [h1]⟩]
          exact p57_11_a (by omega) (lt_n hR.1 hn hj) h1' (bit0T (by omega) (by omega) h2) (sp51 (by omega) hR (by omega)) (by rw [hz, of_decide_eq_true h3]; rfl)
        | false =>
          exact p57_11_b (by omega) (lt_n hR.1 hn hj) h1' (bit0T (by omega) (by omega) h2) (sp51 (by omega) hR (by omega)) (fun z => by
            rw [hz] at z
            exact of_decide_eq_false h3 ((I_inj (by omega) (by omega)).mp (show I _ = I 0 from z))) (I_add _ _) (go (by rw [h3]; simp) _)
  · rw [show cnB n N L a = false from anyB_false.mpr hno]
    exact p57_11_e (nlt_n hR.1 hn (Nat.le_refl _) (by omega))
def lcI (n : Nat) (N : Nat → Nat) (L : Nat) : Int32 := if lcr n N L = n then -1 else I (lcr n N L)
theorem sp56 {L : Nat} (hd : 3 ≤ d) (hR : GR w n N) (G : GW n N) (hL : L < 2 ^ n) : Ev d 56 (ent0 56 [.ref 2, .int (I L)] (hp E w)) (.inl (some (.int (lcI n N L))), hp E w) := by
  have hn := G.n9
  have h512 := Nat.lt_of_lt_of_le hL (two_pow_le hn)
  have key : ∀ m j, j + m = n → Ev d 56 (2, [.ref 2, .int (I L), .int (I j)], [], hp E w) (.inl (some (.int (if ff (fun a => L.testBit a && cnB n N L a) m j = n then -1 else I (ff (fun a => L.testBit a && cnB n N L a) m j)))), hp E w) := by
    intro m
    induction m with
    | zero =>
      intro j hj
      have : j = n := by omega
      subst this
      rw [show ff (fun a => L.testBit a && cnB j N L a) 0 j = j from rfl, if_pos rfl]
      exact p56_2_d (nlt_n hR.1 hn (Nat.le_refl _) (by omega))
    | succ m ih =>
      intro j hj
      have hjn : j < n := by omega
      have h3 := sp57 (E := E) (d := d - 1) (by omega) hR G hjn hL
      cases h1 : L.testBit j with
      | false =>
        rw [ff_F (show (L.testBit j && cnB n N L j) = false by rw [h1]; rfl)]
        exact p56_2_c (lt_n hR.1 hn hjn) (bit0F (by omega) (by omega) h1) (I_add j 1) (ih (j + 1) (by omega))
      | true =>
        cases h2 : cnB n N L j with
        | true =>
          rw [h2] at h3
          rw [ff_T (show (L.testBit j && cnB n N L j) = true by rw [h1, h2]; rfl), if_neg (by omega)]
          exact p56_2_a (by omega) (lt_n hR.1 hn hjn) (bit0T (by omega) (by omega) h1) h3 (by decide)
        | false =>
          rw [h2] at h3
          rw [ff_F (show (L.testBit j && cnB n N L j) = false by rw [h2, Bool.and_false])]
          exact p56_2_b (by omega) (lt_n hR.1 hn hjn) (bit0T (by omega) (by omega) h1) h3 rfl (I_add j 1) (ih (j + 1) (by omega))
  exact p56_e_a (key n 0 (by omega))
theorem sp55l (hd : 4 ≤ d) (hR : GR w n N) (G : GW n N) : ∀ k t L u, t + k = n → L < 2 ^ n → Ev d 55 (7, [.ref 2, .int (I L), .int (I t), u], [], hp E w) (.inl (some (.int (bI (cgB n N k L)))), hp E w)
  | 0, t, L, u, ht, hL => p55_7_c (nlt_n hR.1 G.n9 (by omega) (by have := G.n9; omega))
  | k + 1, t, L, u, ht, hL => by
    have hn := G.n9
    have h512 := Nat.lt_of_lt_of_le hL (two_pow_le hn)
    have h1 := sp56 (E := E) (d := d - 1) (by omega) hR G hL
    unfold cgB
    unfold lcI at h1
    by_cases h : lcr n N L = n
    · rw [if_pos h] at h1 ⊢
      exact p55_7_a (by omega) (lt_n hR.1 hn (by omega)) h1 rfl
    · obtain ⟨h2, h3⟩ := lcr_some hn hL h
      rw [if_neg h] at h1 ⊢
      refine p55_7_b (by omega) (lt_n hR.1 hn (by omega)) h1 (I_ne_m1 (by omega)) ?_ (I_add t 1) (sp55l hd hR G k (t + 1) (rm L (lcr n N L)) _ (by omega) (rm_lt hL))
      rw [I_pow (by omega), I_nd _ h512]
      rfl
theorem sp55 (hd : 4 ≤ d) (hR : GR w n N) (G : GW n N) : Ev d 55 (ent0 55 [.ref 2] (hp E w)) (.inl (some (.int (bI (faB n N)))), hp E w) := by
  have h1 := G.n1
  have h1p := Nat.one_le_two_pow (n := n)
  exact p55_e_a (by omega) (sp45 hR G) (sp55l hd hR G (n - 1) 1 (2 ^ n - 1) jk (by omega) (by omega))
/-! reference -/
theorem nd_and {A B L : Nat} (hA : A &&& L < 512) (hB : B < 512) : nd (A &&& L) (B &&& L) = nd (A &&& L) B := by
  apply Nat.eq_of_testBit_eq
  intro i
  rw [tb_nd hA, tb_nd hA, Nat.testBit_and, Nat.testBit_and]
  cases L.testBit i <;> simp
theorem sp125 {a L : Nat} (hR : MR w n N) (G : GW n N) (ha : a < n) (hL : L < 2 ^ n) : Ev d 125 (ent0 125 [.ref 27, .int (I a), .int (I L)] (hp E w)) (.inl (some (.int (bI (cnB n N L a)))), hp E w) := by
  have hn := G.n9
  have h512 := Nat.lt_of_lt_of_le hL (two_pow_le hn)
  have hA : (N a ||| 2 ^ a) &&& L < 512 := Nat.and_lt_two_pow (n := 9) _ h512
  have hits : ∀ j, j < 9 → (((gA w 10 j) ||| ((1 : Int32) <<< ((I j) &&& 31))) &&& I L) = I ((N j ||| 2 ^ j) &&& L) := fun j hj => by rw [hR.2 j hj, I_pow (by omega), I_or, I_and]
  have key := down (n := n) (Q := fun j => (∀ b, b < j → (decide (b ≠ a) && (L.testBit b && dmB N L a b)) = false) → ∀ u, Ev d 125 (16, [.ref 27, .int (I a), .int (I L), .int (I ((N a ||| 2 ^ a) &&& L)), .int (I j), u], [], hp E w) (.inl (some (.int (bI (cnB n N L a)))), hp E w)) (fun j hj e hno u => ?_) (fun hno u => ?_) 0 (Nat.zero_le _)
  · exact p125_e_a rfl (by omega) rfl (hits a (by omega)) (key (fun b hb => by omega) _)
  · have hj9 : j < 9 := by omega
    have go : (decide (j ≠ a) && (L.testBit j && dmB N L a j)) = false → ∀ u, Ev d 125 (16, [.ref 27, .int (I a), .int (I L), .int (I ((N a ||| 2 ^ a) &&& L)), .int (I (j + 1)), u], [], hp E w) (.inl (some (.int (bI (cnB n N L a)))), hp E w) := fun hj2 u => e (fun b hb => by
      by_cases h : b = j
      · subst h; exact hj2
      · exact hno b (by omega)) u
    by_cases h1 : j = a
    · exact p125_16_d (lt_n hR.1 hn hj) rfl hj9 (by rw [h1]) (I_add _ _) (go (by simp [h1]) _)
    · have h1' : ¬ I j = I a := fun z => h1 ((I_inj (by omega) (by omega)).mp z)
      cases h2 : L.testBit j with
      | false => exact p125_16_c (lt_n hR.1 hn hj) rfl hj9 h1' (shr1F (by omega) (by omega) h2) (I_add _ _) (go (by rw [h2]; simp) _)
      | true =>
        have hz : (I ((N a ||| 2 ^ a) &&& L) &&& ((((gA w 10 j) ||| ((1 : Int32) <<< ((I j) &&& 31))) &&& I L) ^^^ (-1 : Int32))) = I (nd ((N a ||| 2 ^ a) &&& L) (N j ||| 2 ^ j)) := by
          rw [hits j hj9, I_nd _ hA, nd_and hA (nb_lt G hj9)]
        have hlt : nd ((N a ||| 2 ^ a) &&& L) (N j ||| 2 ^ j) < 512 := nd_lt hA
        cases h3 : dmB N L a j with
        | true =>
          rw [show cnB n N L a = true from anyB_iff.mpr ⟨j, hj, by rw [h2, h3]; simp [h1]⟩]
          exact p125_16_a (lt_n hR.1 hn hj) rfl hj9 h1' (shr1T (by omega) (by omega) h2) (by rw [hz, of_decide_eq_true h3]; rfl)
        | false =>
          exact p125_16_b (lt_n hR.1 hn hj) rfl hj9 h1' (shr1T (by omega) (by omega) h2) (fun z => by
            rw [hz] at z
            exact of_decide_eq_false h3 ((I_inj (by omega) (by omega)).mp (show I _ = I 0 from z))) (I_add _ _) (go (by rw [h3]; simp) _)
  · rw [show cnB n N L a = false from anyB_false.mpr hno]
    exact p125_16_e (nlt_n hR.1 hn (Nat.le_refl _) (by omega))
def xk (k : Nat) : Int32 := if k = 0 then -1 else I (k - 1)
theorem xk_succ (k : Nat) : xk (k + 1) = I k := rfl
theorem xk_dec (k : Nat) : I k + (-1 : Int32) = xk k := by
  cases k with
  | zero => rfl
  | succ k => exact I_dec k
theorem cnB_Cn (G : GW n N) {L a : Nat} (hL : L < 2 ^ n) : (L.testBit a = true ∧ cnB n N L a = true) ↔ Cn N L a := by
  rw [cnB_iff G.n9 hL]
  exact Iff.rfl
/-- a sweep of the reference -/
theorem sp126in (hd : 2 ≤ d) (hR : MR w n N) (G : GW n N) (M : Nat) (K : ∀ L u, L < 2 ^ n → pc L < M → (Dx N (2 ^ n - 1) ↔ Dx N L) → Ev d 126 (12, [.ref 27, .int (I L), .int 1, u], [], hp E w) (.inl (some (.int (bI (faB n N)))), hp E w)) :
    ∀ k L b, k ≤ n → L < 2 ^ n → pc L ≤ M → (Dx N (2 ^ n - 1) ↔ Dx N L) → (b = true → pc L < M) → (b = false → ∀ a, a < n → k ≤ a → ¬ Cn N L a) → Ev d 126 (25, [.ref 27, .int (I L), .int (bI b), .int (xk k)], [], hp E w) (.inl (some (.int (bI (faB n N)))), hp E w)
  | 0, L, true, _, hL, hM, hD, ht, _ => p126_25_d (by decide) (K L _ hL (ht rfl) hD)
  | 0, L, false, _, hL, hM, hD, _, hf => by
    have h512 := Nat.lt_of_lt_of_le hL (two_pow_le G.n9)
    have hpl := pc_le L
    have hnone : ∀ a, ¬ Cn N L a := fun a ha => hf rfl a (lt_pow_bits hL ha.1) (Nat.zero_le _) ha
    have hiff : faB n N = true ↔ pc L = 1 := (fa_iff G).trans (hD.trans (Dx_none hnone))
    refine p126_25_d (by decide) ?_
    by_cases h : pc L = 1
    · rw [hiff.mpr h]
      exact p126_12_b (by omega) rfl (sp100 h512) (by rw [h]; rfl)
    · rw [show faB n N = false from by
        cases hq : faB n N with
        | false => rfl
        | true => exact absurd (hiff.mp hq) h]
      exact p126_12_c (by omega) rfl (sp100 h512) (fun z => h ((I_inj (b := 1) (by omega) (by decide)).mp z))
  | k + 1, L, b, hk, hL, hM, hD, ht, hf => by
    have h512 := Nat.lt_of_lt_of_le hL (two_pow_le G.n9)
    have hn := G.n9
    have c1 : ¬ xk (k + 1) < 0 := I_nneg (by omega)
    rw [xk_succ] at c1 ⊢
    cases h1 : L.testBit k with
    | false =>
      refine p126_25_c c1 (shr1F (by omega) (by omega) h1) (xk_dec k) (sp126in hd hR G M K k L b (by omega) hL hM hD ht (fun hb a ha hka hC => ?_))
      by_cases e : a = k
      · subst e; rw [hC.1] at h1; cases h1
      · exact hf hb a ha (by omega) hC
    | true =>
      have h3 := sp125 (E := E) (d := d - 1) hR G (show k < n by omega) hL
      cases h2 : cnB n N L k with
      | true =>
        rw [h2] at h3
        have hC := (cnB_Cn G hL).mp ⟨h1, h2⟩
        have hp := pc_rm h512 h1
        refine p126_25_a (by omega) c1 (shr1T (by omega) (by omega) h1) h3 (by decide) ?_ (xk_dec k) (sp126in hd hR G M K k (rm L k) true (by omega) (rm_lt hL) (by omega) (hD.trans (Dx_rm G h512 hC)) (fun _ => by omega) (fun z => by cases z))
        rw [I_pow (by omega), I_nd _ h512]; rfl
      | false =>
        rw [h2] at h3
        refine p126_25_b (by omega) c1 (shr1T (by omega) (by omega) h1) h3 rfl (xk_dec k) (sp126in hd hR G M K k L b (by omega) hL hM hD ht (fun hb a ha hka hC => ?_))
        by_cases e : a = k
        · subst e
          have := ((cnB_Cn G hL).mpr hC).2
          rw [h2] at this; cases this
        · exact hf hb a ha (by omega) hC
theorem sp126out (hd : 2 ≤ d) (hR : MR w n N) (G : GW n N) : ∀ M L u, L < 2 ^ n → pc L < M → (Dx N (2 ^ n - 1) ↔ Dx N L) → Ev d 126 (12, [.ref 27, .int (I L), .int 1, u], [], hp E w) (.inl (some (.int (bI (faB n N)))), hp E w)
  | 0, L, u, _, h, _ => by omega
  | M + 1, L, u, hL, hM, hD => by
    have h1 := G.n1
    refine p126_12_a (by decide) ?_ (sp126in hd hR G M (sp126out hd hR G M) n L false (Nat.le_refl _) hL (by omega) hD (fun z => by cases z) (fun _ a ha hna => by omega))
    rw [hR.1, show (1 : Int32) = I 1 from rfl, I_sub h1]
    unfold xk
    rw [if_neg (by omega)]
theorem sp126 (hd : 2 ≤ d) (hR : MR w n N) (G : GW n N) : Ev d 126 (ent0 126 [.ref 27] (hp E w)) (.inl (some (.int (bI (faB n N)))), hp E (sF 8 0 w)) := by
  have hR' : MR (sF 8 0 w) n N := hR
  have h1p := Nat.one_le_two_pow (n := n)
  have hpl := pc_le (2 ^ n - 1)
  exact p126_e_a (by omega) (sp99 hR'.1 G.n9) (sp126out hd hR' G 10 (2 ^ n - 1) jk (by omega) (by omega) Iff.rfl)
end
