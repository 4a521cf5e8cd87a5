/-! THE CHASE, class: the second cop, and the whole table. -/
section
variable {E : Nat × (Nat → Int32)} {w : Wd} {d n : Nat} {N : Nat → Nat}
theorem fresh_eq {v Kn : Nat} {p : Nat → Bool} (hn : n ≤ 9) (hv : v < 1024) (hp : ∀ r, r < n → v.testBit r = p r) : ((I v &&& (I Kn ^^^ (-1 : Int32))) &&& I (2 ^ n - 1)) = I (setB n (fun r => p r && !Kn.testBit r)) := by
  rw [I_m1, I_xor, I_and, I_and]
  congr 1
  apply Nat.eq_of_testBit_eq
  intro i
  rw [setB_tb, Nat.testBit_and, Nat.testBit_and, Nat.testBit_xor, Nat.testBit_two_pow_sub_one, show (4294967295 : Nat) = 2 ^ 32 - 1 from rfl, Nat.testBit_two_pow_sub_one]
  by_cases hi : i < n
  · rw [hp i hi, decide_eq_true hi, decide_eq_true (show i < 32 by omega)]
    simp
  · rw [decide_eq_false hi]
    simp
theorem setB_zero {p : Nat → Bool} : setB n p = 0 ↔ anyB n p = false := by
  rw [zero_bits, anyB_false]
  constructor
  · intro h k hk
    have := h k
    rw [setB_tb, decide_eq_true hk] at this
    simpa using this
  · intro h i
    rw [setB_tb]
    by_cases hi : i < n
    · rw [h i hi, Bool.and_false]
    · rw [decide_eq_false hi, Bool.false_and]
/-- times of one pair -/
def tmf (n a b m fr : Nat) (T : Nat → Int32) : Nat → (Nat → Int32) := fun j => fl (fun r T => if fr.testBit r = true then upd T (cl a b r) (I m) else T) j T
theorem tmf_char {a b m fr : Nat} {T : Nat → Int32} (hb : b ≤ 9) (hn : n ≤ 9) : ∀ j, j ≤ n → (∀ r, r < n → tmf n a b m fr T j (cl a b r) = if r < j ∧ fr.testBit r = true then I m else T (cl a b r)) ∧ ∀ i, (∀ r, r < n → i ≠ cl a b r) → tmf n a b m fr T j i = T i
  | 0, _ => ⟨fun r hr => by rw [if_neg (by omega)]; rfl, fun i _ => rfl⟩
  | j + 1, hj => by
    obtain ⟨h1, h2⟩ := tmf_char (m := m) (fr := fr) (T := T) hb hn j (by omega)
    have e : tmf n a b m fr T (j + 1) = if fr.testBit j = true then upd (tmf n a b m fr T j) (cl a b j) (I m) else tmf n a b m fr T j := rfl
    rw [e]
    by_cases hf : fr.testBit j = true
    · rw [if_pos hf]
      refine ⟨fun r hr => ?_, fun i hi => ?_⟩
      · by_cases hrj : r = j
        · subst hrj
          rw [upd_same, if_pos ⟨Nat.lt_succ_self r, hf⟩]
        · rw [upd_ne (fun z => hrj (cl_inj hb hb (by omega) (by omega) z).2.2), h1 r hr]
          by_cases hc : r < j ∧ fr.testBit r = true
          · rw [if_pos hc, if_pos ⟨by omega, hc.2⟩]
          · rw [if_neg hc, if_neg (fun z => hc ⟨by omega, z.2⟩)]
      · rw [upd_ne (hi j (by omega))]
        exact h2 i hi
    · rw [if_neg hf]
      refine ⟨fun r hr => ?_, h2⟩
      rw [h1 r hr]
      by_cases hc : r < j ∧ fr.testBit r = true
      · rw [if_pos hc, if_pos ⟨by omega, hc.2⟩]
      · rw [if_neg hc, if_neg (fun z => hc ⟨by
          have := z.2
          by_cases e : r = j
          · subst e; exact absurd this hf
          · omega, z.2⟩)]
theorem sp11 {a b Kn m : Nat} {x : Int32} {p : Nat → Bool} (hd : 3 ≤ d) (hR : GR w n N) (G : GW n N) (ha : a < n) (hb : b ≤ 9) (hx : HB n x p) (hK : gA w 5 (pr a b) = I Kn) (hKn : Kn < 2 ^ n) :
    ∃ f4, Ev d 11 (ent0 11 [.ref 12, .ref 2, .int (I a), .int (I b), .int x, .int (I m)] (hp E w)) (.inl (some (.int (bI (anyB n (fun r => p r && !Kn.testBit r))))), hp E (sA 5 (upd (gA w 5) (pr a b) (I (setB n (fun r => Kn.testBit r || p r)))) (sA 4 f4 w))) ∧ (∀ r, r < n → f4 (cl a b r) = if (p r && !Kn.testBit r) = true then I m else gA w 4 (cl a b r)) ∧ ∀ i, (∀ r, r < n → i ≠ cl a b r) → f4 i = gA w 4 i := by
  have hn := G.n9
  have h512 := two_pow_le hn
  obtain ⟨v, hv, rfl, hp1⟩ := hx
  have hfr := fresh_eq (Kn := Kn) hn hv hp1
  have hfrl := set512 (p := fun r => p r && !Kn.testBit r) hn
  obtain ⟨c1, c2⟩ := tmf_char (n := n) (a := a) (m := m) (fr := setB n (fun r => p r && !Kn.testBit r)) (T := gA w 4) hb hn n (Nat.le_refl _)
  have hprl := pr_lt (show a < 9 by omega) hb
  refine ⟨tmf n a b m (setB n (fun r => p r && !Kn.testBit r)) (gA w 4) n, ?_, fun r hr => ?_, c2⟩
  · have hor : I Kn ||| I (setB n (fun r => p r && !Kn.testBit r)) = I (setB n (fun r => Kn.testBit r || p r)) := by
      rw [I_or]
      congr 1
      apply Nat.eq_of_testBit_eq
      intro i
      rw [Nat.testBit_or, setB_tb, setB_tb]
      by_cases hi : i < n
      · rw [decide_eq_true hi]
        cases Kn.testBit i <;> cases p i <;> rfl
      · rw [decide_eq_false hi, Nat.testBit_lt_two_pow (Nat.lt_of_lt_of_le hKn (Nat.pow_le_pow_right (by decide) (by omega)))]
        rfl
    have key := down (n := n) (Q := fun j => Ev d 11 (31, [.ref 12, .ref 2, .int (I a), .int (I b), .int (I v), .int (I m), .int (I Kn), .int (I (setB n (fun r => p r && !Kn.testBit r))), .int (I j)], [], hp E (sA 4 (tmf n a b m (setB n (fun r => p r && !Kn.testBit r)) (gA w 4) j) w)) (.inl (some (.int (bI (anyB n (fun r => p r && !Kn.testBit r))))), hp E (sA 5 (upd (gA w 5) (pr a b) (I (setB n (fun r => Kn.testBit r || p r)))) (sA 4 (tmf n a b m (setB n (fun r => p r && !Kn.testBit r)) (gA w 4) n) w)))) (fun j hj e => ?_) ?_ 0 (Nat.zero_le _)
    · refine p11_e_a (y6 := I Kn) (y7 := I (setB n (fun r => p r && !Kn.testBit r))) (by omega) (I_pr a b) (by omega) (sp42 hR G) (by rw [rv_in (by omega)]; exact hK) (by rw [rv_in (by omega), hK]; exact hfr) ?_
      have h0 : tmf n a b m (setB n (fun r => p r && !Kn.testBit r)) (gA w 4) 0 = gA w 4 := rfl
      rw [h0, sA_self] at key
      exact key
    · have hclt := cl_lt (show a < 9 by omega) hb (show j < 9 by omega)
      have hstep : tmf n a b m (setB n (fun r => p r && !Kn.testBit r)) (gA w 4) (j + 1) = if (setB n (fun r => p r && !Kn.testBit r)).testBit j = true then upd (tmf n a b m (setB n (fun r => p r && !Kn.testBit r)) (gA w 4) j) (cl a b j) (I m) else tmf n a b m (setB n (fun r => p r && !Kn.testBit r)) (gA w 4) j := rfl
      rw [hstep] at e
      by_cases hf : (setB n (fun r => p r && !Kn.testBit r)).testBit j = true
      · rw [if_pos hf] at e
        refine p11_31_a (by omega) (lt_n hR.1 hn hj) (bit0T (by omega) (by omega) hf) (I_cl a b j) (by omega) (I_add j 1) ?_ e
        rw [rp_in (by omega), sA_sA]; rfl
      · rw [if_neg hf] at e
        exact p11_31_b (by omega) (lt_n hR.1 hn hj) (bit0F (by omega) (by omega) (by simpa using hf)) (I_add j 1) e
    · have hw : ∀ u : Nat → Int32, sA 5 (rp 90 (gA (sA 4 u w) 5) (pr a b) (I Kn ||| I (setB n (fun r => p r && !Kn.testBit r)))) (sA 4 u w) = sA 5 (upd (gA w 5) (pr a b) (I (setB n (fun r => Kn.testBit r || p r)))) (sA 4 u w) := fun u => by
        rw [rp_in (by omega), hor]; rfl
      cases hany : anyB n (fun r => p r && !Kn.testBit r) with
      | true =>
        have hne : setB n (fun r => p r && !Kn.testBit r) ≠ 0 := fun z => by
          rw [setB_zero.mp z] at hany; cases hany
        exact p11_31_c (by omega) (nlt_n hR.1 hn (Nat.le_refl _) (by omega)) (I_pr a b) (by omega) (fun z => hne ((I_inj (b := 0) (by omega) (by omega)).mp z)) (hw _)
      | false =>
        exact p11_31_d (by omega) (nlt_n hR.1 hn (Nat.le_refl _) (by omega)) (I_pr a b) (by omega) (by rw [setB_zero.mpr hany]; rfl) (hw _)
  · rw [c1 r hr, setB_tb, decide_eq_true hr, Bool.true_and]
    by_cases hc : (p r && !Kn.testBit r) = true
    · rw [if_pos ⟨hr, hc⟩, if_pos hc]
    · rw [if_neg (fun z => hc z.2), if_neg hc]
/-- a time as the class keeps it, at level k -/
def tk (n : Nat) (N : Nat → Nat) (k a b r : Nat) : Int32 := if wc n N k a b r = true then I (tau n N a b r) else -1
def lvl (a b a' b' k : Nat) : Nat := if a' < a ∨ (a' = a ∧ b' < b) then k + 1 else k
/-- rows 5 and 4 as far as the pair (a, b) at level k + 1 -/
def P5 (n : Nat) (N : Nat → Nat) (k a b : Nat) (f5 f4 : Nat → Int32) (g : Bool) : Prop :=
  (∀ a' b', a' < n → pl n b' → f5 (pr a' b') = I (WM n N (lvl a b a' b' k) a' b')) ∧ (∀ a' b' r, a' < n → pl n b' → r < n → f4 (cl a' b' r) = tk n N (lvl a b a' b' k) a' b' r) ∧ (g = false → ∀ a' b' r, a' < n → pl n b' → r < n → (a' < a ∨ (a' = a ∧ b' < b)) → wc n N (k + 1) a' b' r = true → wc n N k a' b' r = true)
theorem wc_om (G : GW n N) {k a b r : Nat} (ha : a < n) (hb : b ≤ 9) : anyB 10 (fun y => nr N b y && omB n N k a y r) = wc n N (k + 1) a b r := by
  apply bool_eq
  rw [wc_succ, anyB_iff]
  constructor
  · rintro ⟨y, hy, h⟩
    rw [Bool.and_eq_true] at h
    obtain ⟨x, hx, h2⟩ := anyB_iff.mp h.2
    rw [Bool.and_eq_true] at h2
    exact Or.inr ⟨x, hx, h2.1, y, hy, h.1, h2.2⟩
  · rintro (h | ⟨x, hx, h1, y, hy, h2, h3⟩)
    · refine ⟨b, by omega, ?_⟩
      rw [nr_self, Bool.true_and]
      exact anyB_iff.mpr ⟨a, ha, by rw [nr_self, Bool.true_and]; exact rb_iff.mpr (Or.inl h)⟩
    · refine ⟨y, hy, ?_⟩
      rw [h2, Bool.true_and]
      exact anyB_iff.mpr ⟨x, hx, by rw [h1, Bool.true_and]; exact h3⟩
theorem tau_fresh (C : CAP n N) {k a b r : Nat} (ha : a < n) (hb : pl n b) (hr : r < n) (h1 : wc n N (k + 1) a b r = true) (h2 : wc n N k a b r = false) : tau n N a b r = k + 1 := by
  have h3 := tau_le_of (C (k + 1) a b r ha hb hr h1)
  have h4 := tau_le_of h1
  have h5 := tau_yes (n := n) (N := N) (a := a) (b := b) (r := r) (by omega)
  by_cases h6 : tau n N a b r ≤ k
  · rw [wc_le h6 h5] at h2; cases h2
  · omega
/-- one pair more -/
theorem P5_next (G : GW n N) (C : CAP n N) {k a b : Nat} {f5 f4 f4' : Nat → Int32} {g : Bool} (ha : a < n) (hb : pl n b) (P : P5 n N k a b f5 f4 g)
    (h1 : ∀ r, r < n → f4' (cl a b r) = if (wc n N (k + 1) a b r && !(WM n N k a b).testBit r) = true then I (k + 1) else f4 (cl a b r)) (h2 : ∀ i, (∀ r, r < n → i ≠ cl a b r) → f4' i = f4 i) :
    P5 n N k a (b + 1) (upd f5 (pr a b) (I (setB n (fun r => (WM n N k a b).testBit r || wc n N (k + 1) a b r)))) f4' (g || anyB n (fun r => wc n N (k + 1) a b r && !(WM n N k a b).testBit r)) := by
  obtain ⟨p1, p2, p3⟩ := P
  have hn := G.n9
  have hb9 := pl9 hn hb
  have hlv : ∀ a' b', ¬ (a' = a ∧ b' = b) → lvl a (b + 1) a' b' k = lvl a b a' b' k := fun a' b' h => by
    unfold lvl
    by_cases h3 : a' < a ∨ (a' = a ∧ b' < b)
    · rw [if_pos h3, if_pos (by omega)]
    · rw [if_neg h3, if_neg (by omega)]
  have hlvo : lvl a b a b k = k := by unfold lvl; rw [if_neg (by omega)]
  have hlvn : lvl a (b + 1) a b k = k + 1 := by unfold lvl; rw [if_pos (by omega)]
  refine ⟨fun a' b' ha' hb' => ?_, fun a' b' r ha' hb' hr => ?_, fun hg a' b' r ha' hb' hr hpv hw => ?_⟩
  · by_cases e : a' = a ∧ b' = b
    · obtain ⟨rfl, rfl⟩ := e
      rw [upd_same, hlvn]
      unfold WM
      congr 1
      refine setB_congr (fun r hr => ?_)
      show ((setB n (wc n N k a' b')).testBit r || wc n N (k + 1) a' b' r) = wc n N (k + 1) a' b' r
      rw [setB_tb, decide_eq_true hr, Bool.true_and]
      cases h3 : wc n N k a' b' r with
      | true => rw [wc_step h3]; rfl
      | false => rfl
    · rw [upd_ne (fun z => e (pr_inj (pl9 hn hb') hb9 z)), hlv a' b' e]
      exact p1 a' b' ha' hb'
  · by_cases e : a' = a ∧ b' = b
    · obtain ⟨rfl, rfl⟩ := e
      rw [h1 r hr, hlvn, WM_tb hr]
      unfold tk
      cases h3 : wc n N (k + 1) a' b' r with
      | false =>
        have h4 : wc n N k a' b' r = false := by
          cases h5 : wc n N k a' b' r with
          | false => rfl
          | true => rw [wc_step h5] at h3; cases h3
        rw [Bool.false_and, if_neg (by decide), if_neg (by decide), p2 a' b' r ha' hb' hr, hlvo]
        unfold tk
        rw [if_neg (by rw [h4]; decide)]
      | true =>
        rw [Bool.true_and, if_pos rfl]
        cases h4 : wc n N k a' b' r with
        | false => rw [if_pos (show (!false) = true from rfl), tau_fresh C ha' hb' hr h3 h4]
        | true =>
          rw [if_neg (by decide), p2 a' b' r ha' hb' hr, hlvo]
          unfold tk
          rw [if_pos h4]
    · rw [h2 _ (fun r' hr' z => e (by have := cl_inj (pl9 hn hb') hb9 (by omega) (by omega) z; exact ⟨this.1, this.2.1⟩)), hlv a' b' e]
      exact p2 a' b' r ha' hb' hr
  · rw [Bool.or_eq_false_iff] at hg
    by_cases e : a' = a ∧ b' = b
    · obtain ⟨rfl, rfl⟩ := e
      have h3 := anyB_false.mp hg.2 r hr
      rw [hw, Bool.true_and, WM_tb hr] at h3
      simpa using h3
    · exact p3 hg.1 a' b' r ha' hb' hr (by omega) hw
theorem P5_row {k a : Nat} {f5 f4 : Nat → Int32} {g : Bool} (hn : n ≤ 9) (P : P5 n N k a 10 f5 f4 g) : P5 n N k (a + 1) 0 f5 f4 g := by
  obtain ⟨p1, p2, p3⟩ := P
  have hlv : ∀ a' b', pl n b' → lvl (a + 1) 0 a' b' k = lvl a 10 a' b' k := fun a' b' h => by
    have := pl9 hn h
    unfold lvl
    by_cases h3 : a' < a ∨ (a' = a ∧ b' < 10)
    · rw [if_pos h3, if_pos (by omega)]
    · rw [if_neg h3, if_neg (by omega)]
  exact ⟨fun a' b' ha' hb' => by rw [hlv a' b' hb']; exact p1 a' b' ha' hb', fun a' b' r ha' hb' hr => by rw [hlv a' b' hb']; exact p2 a' b' r ha' hb' hr, fun hg a' b' r ha' hb' hr hpv => p3 hg a' b' r ha' hb' hr (by have := pl9 hn hb'; omega)⟩
theorem P5_skip {k a b : Nat} {f5 f4 : Nat → Int32} {g : Bool} (hb : ¬ pl n b) (P : P5 n N k a b f5 f4 g) : P5 n N k a (b + 1) f5 f4 g := by
  obtain ⟨p1, p2, p3⟩ := P
  have hlv : ∀ a' b', pl n b' → lvl a (b + 1) a' b' k = lvl a b a' b' k := fun a' b' h => by
    have hne : b' ≠ b := fun z => hb (by rw [← z]; exact h)
    unfold lvl
    by_cases h3 : a' < a ∨ (a' = a ∧ b' < b)
    · rw [if_pos h3, if_pos (by omega)]
    · rw [if_neg h3, if_neg (by omega)]
  exact ⟨fun a' b' ha' hb' => by rw [hlv a' b' hb']; exact p1 a' b' ha' hb', fun a' b' r ha' hb' hr => by rw [hlv a' b' hb']; exact p2 a' b' r ha' hb' hr, fun hg a' b' r ha' hb' hr hpv => p3 hg a' b' r ha' hb' hr (by
    have hne : b' ≠ b := fun z => hb (by rw [← z]; exact hb')
    omega)⟩
def T4 (n : Nat) (N : Nat → Nat) (k : Nat) (f : Nat → Int32) : Prop := ∀ a b r, a < n → pl n b → r < n → f (cl a b r) = tk n N k a b r
def End15 (n : Nat) (N : Nat → Nat) (k : Nat) (f5 f4 : Nat → Int32) (g : Bool) : Prop := T5 n N (k + 1) f5 ∧ T4 n N (k + 1) f4 ∧ (g = false → ∀ a b r, a < n → pl n b → r < n → wc n N (k + 1) a b r = true → wc n N k a b r = true)
theorem P5_end {k : Nat} {f5 f4 : Nat → Int32} {g : Bool} (P : P5 n N k n 0 f5 f4 g) : End15 n N k f5 f4 g := by
  obtain ⟨p1, p2, p3⟩ := P
  have hlv : ∀ a' b', a' < n → lvl n 0 a' b' k = k + 1 := fun a' b' h => by unfold lvl; rw [if_pos (Or.inl h)]
  exact ⟨fun a b ha hb => by rw [p1 a b ha hb, hlv a b ha], fun a b r ha hb hr => by rw [p2 a b r ha hb hr, hlv a b ha], fun hg a b r ha hb hr => p3 hg a b r ha hb hr (Or.inl ha)⟩
theorem P5_start {k : Nat} {f5 f4 : Nat → Int32} (h5 : T5 n N k f5) (h4 : T4 n N k f4) : P5 n N k 0 0 f5 f4 false := by
  have hlv : ∀ a' b', lvl 0 0 a' b' k = k := fun a' b' => by unfold lvl; rw [if_neg (by omega)]
  exact ⟨fun a b ha hb => by rw [hlv]; exact h5 a b ha hb, fun a b r ha hb hr => by rw [hlv]; exact h4 a b r ha hb hr, fun _ a b r _ _ _ h => by omega⟩
theorem sp15in (hd : 4 ≤ d) (hR : GR w n N) (G : GW n N) (C : CAP n N) {k a : Nat} (ha : a < n) (h7 : T7 n N k (gA w 7))
    (K : ∀ (f5 f4 : Nat → Int32) (g : Bool) (u v t : Value), P5 n N k (a + 1) 0 f5 f4 g → ∃ f5' f4' g', Ev d 15 (5, [.ref 12, .ref 2, .int (I (k + 1)), .int (bI g), .int (I (a + 1)), u, v, t], [], hp E (sA 5 f5 (sA 4 f4 w))) (.inl (some (.int (bI g'))), hp E (sA 5 f5' (sA 4 f4' w))) ∧ End15 n N k f5' f4' g') :
    ∀ (R b : Nat) (f5 f4 : Nat → Int32) (g : Bool) (v t : Value), b + R = 10 → P5 n N k a b f5 f4 g → ∃ f5' f4' g', Ev d 15 (17, [.ref 12, .ref 2, .int (I (k + 1)), .int (bI g), .int (I a), .int (I b), v, t], [], hp E (sA 5 f5 (sA 4 f4 w))) (.inl (some (.int (bI g'))), hp E (sA 5 f5' (sA 4 f4' w))) ∧ End15 n N k f5' f4' g'
  | 0, b, f5, f4, g, v, t, hb, P => by
    have : b = 10 := by omega
    subst this
    obtain ⟨f5', f4', g', e, hT⟩ := K f5 f4 g (.int (I 10)) v t (P5_row G.n9 P)
    exact ⟨f5', f4', g', p15_17_c nlt10 (I_add a 1) e, hT⟩
  | R + 1, b, f5, f4, g, v, t, hb, P => by
    have hn := G.n9
    have hb9 : b ≤ 9 := by omega
    have hR' : GR (sA 5 f5 (sA 4 f4 w)) n N := hR
    have hp50 := sp46 (E := E) (d := d - 1) (by omega) hR' G hb9
    by_cases hpl : pl n b
    · have hpb : (decide (b < n) || decide (b = 9)) = true := pl_iff.mpr hpl
      rw [hpb] at hp50
      have hlvo : lvl a b a b k = k := by unfold lvl; rw [if_neg (by omega)]
      have hK5 : f5 (pr a b) = I (WM n N k a b) := by rw [P.1 a b ha hpl, hlvo]
      have run : ∀ (R2 c : Nat) (x : Int32), c + R2 = 10 → HB n x (fun r => anyB c (fun y => nr N b y && omB n N k a y r)) → ∃ f5' f4' g', Ev d 15 (39, [.ref 12, .ref 2, .int (I (k + 1)), .int (bI g), .int (I a), .int (I b), .int x, .int (I c)], [], hp E (sA 5 f5 (sA 4 f4 w))) (.inl (some (.int (bI g'))), hp E (sA 5 f5' (sA 4 f4' w))) ∧ End15 n N k f5' f4' g' := by
        intro R2
        induction R2 with
        | zero =>
          intro c x hc hx
          have : c = 10 := by omega
          subst this
          have hx' : HB n x (fun r => wc n N (k + 1) a b r) := HB_congr hx (fun r _ => (wc_om G ha hb9).symm)
          obtain ⟨f4', e11, q1, q2⟩ := sp11 (E := E) (w := sA 5 f5 (sA 4 f4 w)) (d := d - 1) (m := k + 1) (by omega) hR' G ha hb9 hx' hK5 (setB_lt _ _)
          have ew : sA 5 (upd (gA (sA 5 f5 (sA 4 f4 w)) 5) (pr a b) (I (setB n (fun r => (WM n N k a b).testBit r || wc n N (k + 1) a b r)))) (sA 4 f4' (sA 5 f5 (sA 4 f4 w))) = sA 5 (upd f5 (pr a b) (I (setB n (fun r => (WM n N k a b).testBit r || wc n N (k + 1) a b r)))) (sA 4 f4' w) := by
            rw [sA_comm (i := 4) (by decide), sA_sA, sA_sA]; rfl
          rw [ew] at e11
          obtain ⟨f5', f4'', g', e, hT⟩ := sp15in hd hR G C ha h7 K R (b + 1) _ _ _ (.int x) (.int (I 10)) (by omega) (P5_next G C ha hpl P q1 q2)
          exact ⟨f5', f4'', g', p15_39_c (by omega) nlt10 e11 (bI_or _ _) (I_add b 1) e, hT⟩
        | succ R2 ih =>
          intro c x hc hx
          have h3 := sp48 (E := E) (d := d - 1) (by omega) hR' G hb9 (show c ≤ 9 by omega)
          have hprl := pr_lt (show a < 9 by omega) (show c ≤ 9 by omega)
          cases hq : nr N b c with
          | true =>
            rw [hq] at h3
            obtain ⟨f5', f4', g', e, hT⟩ := ih (c + 1) (x ||| rv 90 (gA w 7) (pr a c)) (by omega) (HB_or hx (q := fun r => omB n N k a c r) (by rw [rv_in (by omega)]; exact h7 a c ha (pl_near G hpl hq)) (fun r hr => by
              show anyB (c + 1) _ = _
              rw [anyB_succ, hq, Bool.true_and]))
            exact ⟨f5', f4', g', p15_39_a (by omega) (lt10 (by omega)) h3 (by decide) (I_pr a c) (by omega) rfl (I_add c 1) e, hT⟩
          | false =>
            rw [hq] at h3
            obtain ⟨f5', f4', g', e, hT⟩ := ih (c + 1) x (by omega) (HB_congr hx (fun r hr => by
              show anyB (c + 1) _ = _
              rw [anyB_succ, hq, Bool.false_and, Bool.or_false]))
            exact ⟨f5', f4', g', p15_39_b (by omega) (lt10 (by omega)) h3 rfl (I_add c 1) e, hT⟩
      obtain ⟨f5', f4', g', e, hT⟩ := run 10 0 0 (by omega) (HB_zero (fun r hr => rfl))
      exact ⟨f5', f4', g', p15_17_a (by omega) (lt10 (by omega)) hp50 (by decide) e, hT⟩
    · have hpb : (decide (b < n) || decide (b = 9)) = false := by
        cases hq : (decide (b < n) || decide (b = 9)) with
        | false => rfl
        | true => exact absurd (pl_iff.mp hq) hpl
      rw [hpb] at hp50
      obtain ⟨f5', f4', g', e, hT⟩ := sp15in hd hR G C ha h7 K R (b + 1) f5 f4 g v t (by omega) (P5_skip hpl P)
      exact ⟨f5', f4', g', p15_17_b (by omega) (lt10 (by omega)) hp50 rfl (I_add b 1) e, hT⟩
theorem sp15out (hd : 4 ≤ d) (hR : GR w n N) (G : GW n N) (C : CAP n N) {k : Nat} (h7 : T7 n N k (gA w 7)) : ∀ (R a : Nat) (f5 f4 : Nat → Int32) (g : Bool) (u v t : Value), a + R = n → P5 n N k a 0 f5 f4 g → ∃ f5' f4' g', Ev d 15 (5, [.ref 12, .ref 2, .int (I (k + 1)), .int (bI g), .int (I a), u, v, t], [], hp E (sA 5 f5 (sA 4 f4 w))) (.inl (some (.int (bI g'))), hp E (sA 5 f5' (sA 4 f4' w))) ∧ End15 n N k f5' f4' g'
  | 0, a, f5, f4, g, u, v, t, ha, P => by
    have : a = n := by omega
    subst this
    exact ⟨f5, f4, g, p15_5_b (by omega) (nlt_n hR.1 G.n9 (Nat.le_refl _) (by have := G.n9; omega)) (bI_and _), P5_end P⟩
  | R + 1, a, f5, f4, g, u, v, t, ha, P => by
    obtain ⟨f5', f4', g', e, hT⟩ := sp15in hd hR G C (show a < n by omega) h7 (fun f5 f4 g u v t P => sp15out hd hR G C h7 R (a + 1) f5 f4 g u v t (by omega) P) 10 0 f5 f4 g v t (by omega) P
    exact ⟨f5', f4', g', p15_5_a (by omega) (lt_n hR.1 G.n9 (by omega)) e, hT⟩
theorem sp15 (hd : 4 ≤ d) (hR : GR w n N) (G : GW n N) (C : CAP n N) {k : Nat} {f5 f4 : Nat → Int32} (h5 : T5 n N k f5) (h4 : T4 n N k f4) (h7 : T7 n N k (gA w 7)) : ∃ f5' f4' g', Ev d 15 (ent0 15 [.ref 12, .ref 2, .int (I (k + 1))] (hp E (sA 5 f5 (sA 4 f4 w)))) (.inl (some (.int (bI g'))), hp E (sA 5 f5' (sA 4 f4' w))) ∧ End15 n N k f5' f4' g' := by
  obtain ⟨f5', f4', g', e, hT⟩ := sp15out (E := E) hd hR G C h7 n 0 f5 f4 false jk jk jk (by omega) (P5_start h5 h4)
  exact ⟨f5', f4', g', p15_e_a e, hT⟩
end
