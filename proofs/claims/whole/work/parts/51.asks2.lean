/-! THE CHASE, reference: away. -/
section
variable {E : Nat × (Nat → Int32)} {w : Wd} {d n : Nat} {N : Nat → Nat}
def mlo (p : Nat × Nat) : Int32 := if p.2 = 0 then -1 else I (p.2 - 1)
theorem I_nm1 {k : Nat} (h : k < 2147483648) : ¬ I k < -1 := by
  intro z
  rw [Int32.lt_iff_toInt_lt, I_toInt h] at z
  have : (-1 : Int32).toInt = -1 := by decide
  omega
theorem m1_lt {k : Nat} (h : k < 2147483648) : (-1 : Int32) < I k := by
  rw [Int32.lt_iff_toInt_lt, I_toInt h]
  have : (-1 : Int32).toInt = -1 := by decide
  omega
theorem mlo_nm1 {p : Nat × Nat} (h : p.2 ≤ 100) : ¬ mlo p < -1 := by
  unfold mlo
  by_cases h0 : p.2 = 0
  · rw [if_pos h0]; decide
  · rw [if_neg h0]; exact I_nm1 (by omega)
theorem mlo_lt {p : Nat × Nat} {t : Nat} (h : p.2 ≤ 100) (ht : t ≤ 99) : mlo p < I t ↔ p.2 < t + 1 := by
  unfold mlo
  by_cases h0 : p.2 = 0
  · rw [if_pos h0]
    exact ⟨fun _ => by omega, fun _ => m1_lt (by omega)⟩
  · rw [if_neg h0, I_lt (by omega) (by omega)]; omega
theorem sp123 {x : Int32} {a b r : Nat} (hd : 4 ≤ d) (hR : MR w n N) (G : GW n N) (ha : a < n) (hb : PB n x b) (hr : r < n) (hq : areR n (I a) x (I r) = true) : ∃ w', Ev d 123 (ent0 123 [.ref 27, .int (I a), .int x, .int (I r)] (hp E w)) (.inl (some (.int (awayV n N a b r))), hp E w') ∧ (w' = sF 8 0 w ∨ ∃ f g, w' = tw f g (sF 8 0 w)) := by
  have hn := G.n9
  have h0 := sp119 (E := E) (w := sF 8 0 w) (d := d - 1) (a := I a) (b := x) (c := I r) (by omega) hR
  rw [hq] at h0
  have hb9 := pl9 hn hb.pl
  unfold awayV
  by_cases h1 : a = r
  · rw [if_pos (Or.inl h1)]
    exact ⟨_, p123_e_e (by omega) h0 (by decide) (by rw [h1]), Or.inl rfl⟩
  · have h1' : ¬ I a = I r := fun z => h1 ((I_inj (by omega) (by omega)).mp z)
    by_cases h2 : b = r
    · rw [if_pos (Or.inr h2)]
      refine ⟨_, p123_e_b (by omega) h0 (by decide) h1' ?_, Or.inl rfl⟩
      rcases hb with ⟨c1, c2⟩ | ⟨c1, c2, c3⟩
      · omega
      · rw [c1, h2]
    · have h2' : ¬ x = I r := by
        rcases hb with ⟨c1, c2⟩ | ⟨c1, c2, c3⟩
        · rw [c1]
          intro z
          have := m1_lt (k := r) (by omega)
          rw [← z] at this
          exact absurd this (by decide)
        · rw [c1]; exact fun z => h2 ((I_inj (by omega) (by omega)).mp z)
      rw [if_neg (fun z => by rcases z with z | z <;> omega)]
      obtain ⟨f, g, fb, lb, e1, e2, hF, hg, hb1, hb2⟩ := sp118p (E := E) (w := sF 8 0 w) (d := d - 1) (by omega) (MR0 hR) G hb
      refine ⟨_, ?_, Or.inr ⟨f, g, rfl⟩⟩
      have hRW : MR (tw f g (sF 8 0 w)) n N := hR
      have key := down (n := n) (Q := fun j => ∀ u : Value, Ev d 123 (56, [.ref 27, .int (I a), .int x, .int (I r), .int (awB (awS n N a b r j)), .int (mlo (awS n N a b r j)), .int (I j), u], [], hp E (tw f g (sF 8 0 w))) (.inl (some (.int (awB (awS n N a b r n)))), hp E (tw f g (sF 8 0 w)))) (fun j hj e u => ?_) (fun u => ?_) 0 (Nat.zero_le _)
      · by_cases c1 : x = -1
        · exact p123_e_c (by omega) h0 (by decide) h1' h2' c1 (e1 c1) (key _)
        · exact p123_e_d (by omega) h0 (by decide) h1' h2' c1 (e2 c1) (key _)
      · have h3 := sp114 (E := E) (w := tw f g (sF 8 0 w)) (d := d - 1) hRW G (show r < 9 by omega) (show j < 9 by omega)
        have htl := tau_le (n := n) (N := N) a b j
        have hal := awS_le (n := n) (N := N) a b r j
        have hlt := mlo_lt (p := awS n N a b r j) hal htl
        have hnm := mlo_nm1 (p := awS n N a b r j) hal
        have hci := cl_lt (show a < 9 by omega) hb9 (show j < 9 by omega)
        have hv := (hF a b j ha hb1 hb2 hj).1
        have hB : awB (j, tau n N a b j + 1) = I j := by
          unfold awB
          rw [if_neg (show ¬ tau n N a b j + 1 = 0 by omega)]
        have hL : mlo (j, tau n N a b j + 1) = I (tau n N a b j) := by
          unfold mlo
          rw [if_neg (show ¬ tau n N a b j + 1 = 0 by omega)]
          rfl
        rw [awS_succ] at e
        cases hq : nr N r j with
        | false =>
          rw [hq] at h3
          rw [hq, Bool.false_and, if_neg (by decide)] at e
          exact p123_56_l (by omega) (lt_n hRW.1 hn hj) h3 rfl hnm hnm (I_add j 1) (e _)
        | true =>
          rw [hq] at h3
          rw [hq, Bool.true_and] at e
          by_cases h6 : (awS n N a b r j).2 < tau n N a b j + 1
          · rw [if_pos (decide_eq_true h6), hL, hB] at e
            have hc := hlt.mpr h6
            rw [← hv] at hc
            rcases hb with ⟨c1, c2⟩ | ⟨c1, c2, c3⟩
            · have gi : ((((I a * (10 : Int32)) + (9 : Int32)) * (9 : Int32)) + I j) = I (cl a b j) := by rw [c2]; exact I_cl a 9 j
              exact p123_56_a (by omega) (lt_n hRW.1 hn hj) h3 (by decide) c1 gi hci hc hc hv (I_add j 1) (e _)
            · have gi : ((((I a * (10 : Int32)) + x) * (9 : Int32)) + I j) = I (cl a b j) := by rw [c1]; exact I_cl a b j
              exact p123_56_e (by omega) (lt_n hRW.1 hn hj) h3 (by decide) c3 gi hci hc hc hv (I_add j 1) (e _)
          · rw [if_neg (by rw [decide_eq_false h6]; decide)] at e
            have hc : ¬ mlo (awS n N a b r j) < gA (tw f g (sF 8 0 w)) 15 (cl a b j) := by rw [hv]; exact fun z => h6 (hlt.mp z)
            rcases hb with ⟨c1, c2⟩ | ⟨c1, c2, c3⟩
            · have gi : ((((I a * (10 : Int32)) + (9 : Int32)) * (9 : Int32)) + I j) = I (cl a b j) := by rw [c2]; exact I_cl a 9 j
              exact p123_56_d (by omega) (lt_n hRW.1 hn hj) h3 (by decide) c1 gi hci hc hc (I_add j 1) (e _)
            · have gi : ((((I a * (10 : Int32)) + x) * (9 : Int32)) + I j) = I (cl a b j) := by rw [c1]; exact I_cl a b j
              exact p123_56_h (by omega) (lt_n hRW.1 hn hj) h3 (by decide) c3 gi hci hc hc (I_add j 1) (e _)
      · exact p123_56_m (nlt_n hRW.1 hn (Nat.le_refl _) (by omega))
/-- the whole set -/
theorem setB_full {p : Nat → Bool} {n : Nat} : setB n p = 2 ^ n - 1 ↔ ∀ r, r < n → p r = true := by
  constructor
  · intro h r hr
    have := congrArg (fun x => x.testBit r) h
    simp only [setB_tb, Nat.testBit_two_pow_sub_one, hr, decide_true, Bool.true_and] at this
    exact this
  · intro h
    apply Nat.eq_of_testBit_eq
    intro i
    rw [setB_tb, Nat.testBit_two_pow_sub_one]
    by_cases hi : i < n
    · rw [h i hi, Bool.and_true]
    · rw [decide_eq_false hi]; rfl
/-- the cops in a and b catch wherever the robber begins -/
def okC (n : Nat) (N : Nat → Nat) (a b : Nat) : Prop := ∀ r, r < n → tau n N a b r < 99
theorem cfB_iff {b : Nat} : cfB n N b = true ↔ ∃ a, a < n ∧ okC n N a b := by
  unfold cfB
  rw [anyB_iff]
  constructor
  · rintro ⟨a, ha, h⟩
    exact ⟨a, ha, fun r hr => of_decide_eq_true (setB_full.mp (of_decide_eq_true h) r hr)⟩
  · rintro ⟨a, ha, h⟩
    exact ⟨a, ha, decide_eq_true (setB_full.mpr (fun r hr => decide_eq_true (h r hr)))⟩
theorem catch_from {x : Int32} {fb lb : Nat} {res : Bool} (hd : 1 ≤ d) (hR : MR w n N) (G : GW n N) (hF : FL w n N fb lb) (hg : RG n N fb lb) (hx : (x = 1 ∧ fb = 9 ∧ lb = 9) ∨ (¬ x = 1 ∧ fb = 0 ∧ lb = n - 1)) (hr : res = true ↔ ∃ a b, a < n ∧ fb ≤ b ∧ b ≤ lb ∧ okC n N a b) : Ev d 124 (39, [.ref 27, .int x, .int (I 0), jk, jk, jk], [], hp E w) (.inl (some (.int (bI res))), hp E w) := by
  have hn := G.n9
  have h1n := G.n1
  obtain ⟨g1, g2, g3, g4⟩ := hg
  have key := down (n := n) (Q := fun a => (∀ a' b', a' < a → fb ≤ b' → b' ≤ lb → ¬ okC n N a' b') → ∀ u3 u4 u5, Ev d 124 (39, [.ref 27, .int x, .int (I a), u3, u4, u5], [], hp E w) (.inl (some (.int (bI res))), hp E w)) (fun a ha e h u3 u4 u5 => ?_) (fun h u3 u4 u5 => ?_) 0 (Nat.zero_le _)
  · exact key (fun a' b' h => by omega) _ _ _
  · have hlt := lt_n hR.1 hn ha
    have k2 := down (n := lb + 1) (Q := fun b => fb ≤ b → (∀ b', fb ≤ b' → b' < b → ¬ okC n N a b') → ∀ u4 u5, Ev d 124 (59, [.ref 27, .int x, .int (I a), .int (I b), u4, u5], [], hp E w) (.inl (some (.int (bI res))), hp E w)) (fun b hb e2 hfb h2 u4 u5 => ?_) (fun hfb h2 u4 u5 => ?_) fb (by omega) (Nat.le_refl _) (fun b' z1 z2 => by omega)
    · rcases hx with ⟨c1, c2, c3⟩ | ⟨c1, c2, c3⟩
      · subst c2
        exact p124_39_a hlt c1 (k2 _ _)
      · subst c2
        exact p124_39_b hlt c1 (k2 _ _)
    · have k3 := down (n := n) (Q := fun r => ∀ fl : Bool, ((fl = true) ↔ ∀ r', r' < r → tau n N a b r' < 99) → Ev d 124 (85, [.ref 27, .int x, .int (I a), .int (I b), .int (bI fl), .int (I r)], [], hp E w) (.inl (some (.int (bI res))), hp E w)) (fun r hr' e3 fl hfl => ?_) (fun fl hfl => ?_) 0 (Nat.zero_le _) true ⟨fun _ r' z => by omega, fun _ => rfl⟩
      · rcases hx with ⟨c1, c2, c3⟩ | ⟨c1, c2, c3⟩
        · exact p124_59_a c1 (show ¬ I 9 < I b from by rw [I_lt (by omega) (by omega)]; omega) k3
        · refine p124_59_c c1 ?_ k3
          rw [hR.1, show I n - (1 : Int32) = I (n - 1) from I_sub h1n, I_lt (by omega) (by omega)]; omega
      · have hlr := lt_n hR.1 hn hr'
        have hci := cl_lt (show a < 9 by omega) (show b ≤ 9 by omega) (show r < 9 by omega)
        have hv := (hF a b r ha hfb (by omega) hr').1
        have t9 := tau_le (n := n) (N := N) a b r
        cases fl with
        | false =>
          refine p124_85_c hlr rfl (I_add r 1) (e3 false ⟨fun z => (by cases z), fun z => ?_⟩)
          exact hfl.mpr (fun r' h' => z r' (by omega))
        | true =>
          have hall := hfl.mp rfl
          by_cases h9 : tau n N a b r < 99
          · refine p124_85_a hd hlr (by decide) (I_cl a b r) hci (by rw [hv]; exact (I_lt (b := 99) (by omega) (by omega)).mpr h9) (I_add r 1) (e3 true ⟨fun _ r' h' => ?_, fun _ => rfl⟩)
            by_cases e4 : r' = r
            · rw [e4]; exact h9
            · exact hall r' (by omega)
          · refine p124_85_b hd hlr (by decide) (I_cl a b r) hci (by rw [hv]; exact fun z => h9 ((I_lt (b := 99) (by omega) (by omega)).mp z)) (I_add r 1) (e3 false ⟨fun z => (by cases z), fun z => ?_⟩)
            exact absurd (z r (by omega)) h9
      · have hnl := nlt_n hR.1 hn (Nat.le_refl n) (by omega)
        cases fl with
        | true =>
          have : res = true := hr.mpr ⟨a, b, ha, hfb, by omega, hfl.mp rfl⟩
          rw [this]
          exact p124_85_d hnl (by decide)
        | false =>
          refine p124_85_e hnl rfl (I_add b 1) (e2 (by omega) (fun b' h3 h4 => ?_) _ _)
          by_cases e4 : b' = b
          · rw [e4]; exact fun z => by have := hfl.mpr z; cases this
          · exact h2 b' h3 (by omega)
    · have nx := e (fun a' b' h1 h3 h4 => by
        by_cases e4 : a' = a
        · rw [e4]; exact h2 b' h3 (by omega)
        · exact h a' b' (by omega) h3 h4)
      rcases hx with ⟨c1, c2, c3⟩ | ⟨c1, c2, c3⟩
      · exact p124_59_b c1 (show I 9 < I (lb + 1) from (I_lt (by omega) (by omega)).mpr (by omega)) (I_add a 1) (nx _ _ _)
      · refine p124_59_d c1 ?_ (I_add a 1) (nx _ _ _)
        rw [hR.1, show I n - (1 : Int32) = I (n - 1) from I_sub h1n, I_lt (by omega) (by omega)]; omega
  · have : res = false := by
      cases h0 : res with
      | false => rfl
      | true =>
        obtain ⟨a, b, ha, h1, h2, h3⟩ := hr.mp h0
        exact absurd h3 (h a b ha h1 h2)
    rw [this]
    exact p124_39_c (nlt_n hR.1 hn (Nat.le_refl _) (by omega))
theorem sp124o (hd : 4 ≤ d) (hR : MR w n N) (G : GW n N) : ∃ f g, Ev d 124 (ent0 124 [.ref 27, .int 1] (hp E w)) (.inl (some (.int (bI (cfB n N 9)))), hp E (tw f g (sF 8 0 w))) := by
  obtain ⟨f, g, e, hF⟩ := sp118o (E := E) (w := sF 8 0 w) (d := d - 1) (x1 := 1) (by omega) (MR0 hR) G (by decide)
  refine ⟨f, g, p124_e_b (by omega) (by decide) (by decide) rfl e (catch_from (fb := 9) (lb := 9) (by omega) hR G hF (RG_one G) (Or.inl ⟨rfl, rfl, rfl⟩) ?_)⟩
  rw [cfB_iff]
  constructor
  · rintro ⟨a, ha, h⟩
    exact ⟨a, 9, ha, Nat.le_refl _, Nat.le_refl _, h⟩
  · rintro ⟨a, b, ha, h1, h2, h⟩
    have : b = 9 := by omega
    subst this
    exact ⟨a, ha, h⟩
theorem sp124t (hd : 4 ≤ d) (hR : MR w n N) (G : GW n N) : ∃ f g, Ev d 124 (ent0 124 [.ref 27, .int 2] (hp E w)) (.inl (some (.int (bI (twB n N)))), hp E (tw f g (sF 8 0 w))) := by
  have h1n := G.n1
  obtain ⟨f, g, e, hF⟩ := sp118t (E := E) (w := sF 8 0 w) (d := d - 1) (by omega) (MR0 hR) G
  refine ⟨f, g, p124_e_c (by omega) (by decide) (by decide) (by decide) e (catch_from (fb := 0) (lb := n - 1) (by omega) hR G hF (RG_two G) (Or.inr ⟨by decide, rfl, rfl⟩) ?_)⟩
  unfold twB
  rw [anyB_iff]
  constructor
  · rintro ⟨b, hb, h⟩
    obtain ⟨a, ha, h⟩ := cfB_iff.mp h
    exact ⟨a, b, ha, Nat.zero_le _, by omega, h⟩
  · rintro ⟨a, b, ha, h1, h2, h⟩
    exact ⟨b, by omega, cfB_iff.mpr ⟨a, ha, h⟩⟩
end
