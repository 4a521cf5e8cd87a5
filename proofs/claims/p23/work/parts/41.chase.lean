/-! THE CHASE, class: the table is filled. -/
section
variable {E : Nat × (Nat → Int32)} {w : Wd} {d n : Nat} {N : Nat → Nat}
theorem tb_1024 {a i : Nat} (h : a < 1024) (hi : 10 ≤ i) : a.testBit i = false := Nat.testBit_lt_two_pow (Nat.lt_of_lt_of_le h (show 2 ^ 10 ≤ 2 ^ i from Nat.pow_le_pow_right (by decide) hi))
theorem pow_bit {a r : Nat} : (2 ^ a).testBit r = decide (a = r) := Nat.testBit_two_pow
/-- withoutEscape -/
def weB (n : Nat) (N : Nat → Nat) (c r : Nat) : Bool := decide (nd (N r ||| 2 ^ r) c = 0)
theorem sp13 {c : Nat} (hd : 2 ≤ d) (hR : GR w n N) (G : GW n N) : Ev d 13 (ent0 13 [.ref 2, .int (I c)] (hp E w)) (.inl (some (.int (I (setB n (weB n N c))))), hp E w) := by
  have hn := G.n9
  refine p13_e_a ?_
  refine loop_up (P := fun j a => (4, [.ref 2, .int (I c), .int (I a), .int (I j)], [], hp E w)) (fun k a => if weB n N c k = true then a ||| 2 ^ k else a) n 0 (fun j hj e => ?_) ?_
  · have hnb := nb_lt G (a := j) (by omega)
    have hz : (I (N j ||| 2 ^ j) &&& (I c ^^^ (-1 : Int32))) = I (nd (N j ||| 2 ^ j) c) := I_nd _ hnb
    have hlt : nd (N j ||| 2 ^ j) c < 512 := nd_lt hnb
    by_cases h : weB n N c j = true
    · rw [if_pos h] at e
      exact p13_4_a (by omega) (lt_n hR.1 hn hj) (sp47 (by omega) hR (by omega)) (by rw [hz, of_decide_eq_true h]; rfl) (by rw [I_pow (by omega), I_or]) (I_add _ _) e
    · rw [if_neg h] at e
      refine p13_4_b (by omega) (lt_n hR.1 hn hj) (sp47 (by omega) hR (by omega)) (fun z => ?_) (I_add _ _) e
      rw [hz] at z
      exact h (decide_eq_true ((I_inj (by omega) (by omega)).mp (show I _ = I 0 from z)))
  · exact p13_4_c (by omega) (nlt_n hR.1 hn (Nat.le_refl _) (by omega))
theorem we_iff (G : GW n N) {c r : Nat} (hr : r < n) : weB n N c r = true ↔ ∀ x, x < n → nr N r x = true → c.testBit x = true := by
  have hnb := nb_lt G (a := r) (by have := G.n9; omega)
  unfold weB
  rw [decide_eq_true_eq, zero_bits]
  constructor
  · intro h x hx hnr
    have h1 := h x
    rw [tb_nd hnb, nb_tb, hnr] at h1
    simpa using h1
  · intro h x
    rw [tb_nd hnb, nb_tb]
    cases h1 : nr N r x with
    | false => rfl
    | true => rw [h x (nr_lt G hr h1) h1]; rfl
/-- what the three rows hold at level k -/
def T5 (n : Nat) (N : Nat → Nat) (k : Nat) (f : Nat → Int32) : Prop := ∀ a b, a < n → pl n b → f (pr a b) = I (WM n N k a b)
def T6 (n : Nat) (N : Nat → Nat) (k : Nat) (f : Nat → Int32) : Prop := ∀ a b, a < n → pl n b → HB n (f (pr a b)) (fun r => rbB n N (wc n N k) a b r)
def omB (n : Nat) (N : Nat → Nat) (k a b r : Nat) : Bool := anyB n (fun x => nr N a x && rbB n N (wc n N k) x b r)
def T7 (n : Nat) (N : Nat → Nat) (k : Nat) (f : Nat → Int32) : Prop := ∀ a b, a < n → pl n b → HB n (f (pr a b)) (fun r => omB n N k a b r)
theorem WM_tb {k a b r : Nat} (hr : r < n) : (WM n N k a b).testBit r = wc n N k a b r := by
  unfold WM
  rw [setB_tb, decide_eq_true hr, Bool.true_and]
theorem rb_bits (G : GW n N) {k a b r : Nat} (hr : r < n) : (2 ^ a ||| 2 ^ b ||| setB n (weB n N (WM n N k a b))).testBit r = rbB n N (wc n N k) a b r := by
  apply bool_eq
  rw [Nat.testBit_or, Nat.testBit_or, pow_bit, pow_bit, setB_tb, decide_eq_true hr, Bool.true_and, Bool.or_eq_true, Bool.or_eq_true, decide_eq_true_eq, decide_eq_true_eq, rb_iff, we_iff G hr]
  constructor
  · rintro (h | h)
    · exact Or.inl h
    · exact Or.inr (fun x hx hnr => by rw [← WM_tb hx]; exact h x hx hnr)
  · rintro (h | h)
    · exact Or.inl h
    · exact Or.inr (fun x hx hnr => by rw [WM_tb hx]; exact h x hx hnr)
theorem lt10 {j : Nat} (h : j < 10) : I j < (10 : Int32) := show I j < I 10 from (I_lt (by omega) (by omega)).mpr h
theorem nlt10 : ¬ I 10 < (10 : Int32) := by decide
theorem upd_same (f : Nat → Int32) (r : Nat) (v : Int32) : upd f r v r = v := by rw [upd_ap, if_pos rfl]
theorem upd_ne {f : Nat → Int32} {r i : Nat} {v : Int32} (h : i ≠ r) : upd f r v i = f i := by rw [upd_ap, if_neg h]
theorem set512 {n : Nat} {p : Nat → Bool} (hn : n ≤ 9) : setB n p < 512 := Nat.lt_of_lt_of_le (setB_lt p n) (two_pow_le hn)
/-- letRobberMove, one row of pairs -/
theorem sp12in (hd : 3 ≤ d) (hR : GR w n N) (G : GW n N) {k a : Nat} (ha : a < n) (h5 : T5 n N k (gA w 5))
    (K : ∀ (f : Nat → Int32) (u v : Value), (∀ a' b, a' < a + 1 → pl n b → HB n (f (pr a' b)) (fun r => rbB n N (wc n N k) a' b r)) → ∃ f', Ev d 12 (2, [.ref 12, .ref 2, .int (I (a + 1)), u, v], [], hp E (sA 6 f w)) (.inl none, hp E (sA 6 f' w)) ∧ T6 n N k f') :
    ∀ (R b : Nat) (f : Nat → Int32) (v : Value), b + R = 10 → (∀ a' b', a' < a → pl n b' → HB n (f (pr a' b')) (fun r => rbB n N (wc n N k) a' b' r)) → (∀ b', b' < b → pl n b' → HB n (f (pr a b')) (fun r => rbB n N (wc n N k) a b' r)) → ∃ f', Ev d 12 (12, [.ref 12, .ref 2, .int (I a), .int (I b), v], [], hp E (sA 6 f w)) (.inl none, hp E (sA 6 f' w)) ∧ T6 n N k f'
  | 0, b, f, v, hb, h1, h2 => by
    have : b = 10 := by omega
    subst this
    obtain ⟨f', e, hT⟩ := K f (.int (I 10)) v (fun a' b' ha' hb' => by
      by_cases e : a' = a
      · subst e; exact h2 b' (by have := pl9 G.n9 hb'; omega) hb'
      · exact h1 a' b' (by omega) hb')
    exact ⟨f', p12_12_c nlt10 (I_add a 1) e, hT⟩
  | R + 1, b, f, v, hb, h1, h2 => by
    have hn := G.n9
    have hb9 : b ≤ 9 := by omega
    have hR' : GR (sA 6 f w) n N := hR
    have hp50 := sp46 (E := E) (d := d - 1) (by omega) hR' G hb9
    by_cases hpl : pl n b
    · have hpb : (decide (b < n) || decide (b = 9)) = true := pl_iff.mpr hpl
      rw [hpb] at hp50
      have hprl := pr_lt (show a < 9 by omega) hb9
      have hv : HB n (upd f (pr a b) (I (2 ^ a ||| 2 ^ b ||| setB n (weB n N (WM n N k a b)))) (pr a b)) (fun r => rbB n N (wc n N k) a b r) := by
        rw [upd_same]
        exact ⟨_, or_lt1024 (or_lt1024 (pow_lt1024 (by omega)) (pow_lt1024 hb9)) (by have := set512 (p := weB n N (WM n N k a b)) hn; omega), rfl, fun r hr => rb_bits G hr⟩
      obtain ⟨f', e, hT⟩ := sp12in hd hR G ha h5 K R (b + 1) (upd f (pr a b) (I (2 ^ a ||| 2 ^ b ||| setB n (weB n N (WM n N k a b))))) (.int (I (2 ^ a ||| 2 ^ b ||| setB n (weB n N (WM n N k a b))))) (by omega)
        (fun a' b' ha' hb' => by
          rw [upd_ne (fun z => by have := (pr_inj (pl9 hn hb') hb9 z).1; omega)]
          exact h1 a' b' ha' hb')
        (fun b' hb' hpb' => by
          by_cases e : b' = b
          · subst e; exact hv
          · rw [upd_ne (fun z => e (pr_inj (by omega) hb9 z).2)]
            exact h2 b' (by omega) hpb')
      have hval : (((((1 : Int32) <<< (I a &&& 31)) ||| ((1 : Int32) <<< (I b &&& 31))) ||| I (setB n (weB n N (WM n N k a b))))) = I (2 ^ a ||| 2 ^ b ||| setB n (weB n N (WM n N k a b))) := by rw [I_pow (by omega), I_pow (by omega), I_or, I_or]
      refine ⟨f', p12_12_a (by omega) (lt10 (by omega)) hp50 (by decide) (I_pr a b) (by omega) ?_ (sp13 (c := WM n N k a b) (by omega) hR' G) (I_pr a b) (by omega) (I_add b 1) ?_ (by rw [hval]; exact e), hT⟩
      · rw [rv_in (by omega)]; exact h5 a b ha hpl
      · rw [rp_in (by omega), sA_sA, hval]; rfl
    · have hpb : (decide (b < n) || decide (b = 9)) = false := by
        cases hq : (decide (b < n) || decide (b = 9)) with
        | false => rfl
        | true => exact absurd (pl_iff.mp hq) hpl
      rw [hpb] at hp50
      obtain ⟨f', e, hT⟩ := sp12in hd hR G ha h5 K R (b + 1) f v (by omega) h1 (fun b' hb' hpb' => by
        by_cases e : b' = b
        · subst e; exact absurd hpb' hpl
        · exact h2 b' (by omega) hpb')
      exact ⟨f', p12_12_b (by omega) (lt10 (by omega)) hp50 rfl (I_add b 1) e, hT⟩
theorem sp12out (hd : 3 ≤ d) (hR : GR w n N) (G : GW n N) {k : Nat} (h5 : T5 n N k (gA w 5)) : ∀ (R a : Nat) (f : Nat → Int32) (u v : Value), a + R = n → (∀ a' b, a' < a → pl n b → HB n (f (pr a' b)) (fun r => rbB n N (wc n N k) a' b r)) → ∃ f', Ev d 12 (2, [.ref 12, .ref 2, .int (I a), u, v], [], hp E (sA 6 f w)) (.inl none, hp E (sA 6 f' w)) ∧ T6 n N k f'
  | 0, a, f, u, v, ha, h1 => by
    have : a = n := by omega
    subst this
    exact ⟨f, p12_2_b (by omega) (nlt_n hR.1 G.n9 (Nat.le_refl _) (by have := G.n9; omega)), h1⟩
  | R + 1, a, f, u, v, ha, h1 => by
    obtain ⟨f', e, hT⟩ := sp12in hd hR G (show a < n by omega) h5 (fun f u v h => sp12out hd hR G h5 R (a + 1) f u v (by omega) h) 10 0 f v (by omega) h1 (fun b' hb' => by omega)
    exact ⟨f', p12_2_a (by omega) (lt_n hR.1 G.n9 (by omega)) e, hT⟩
theorem sp12 (hd : 3 ≤ d) (hR : GR w n N) (G : GW n N) {k : Nat} (h5 : T5 n N k (gA w 5)) : ∃ f', Ev d 12 (ent0 12 [.ref 12, .ref 2] (hp E w)) (.inl none, hp E (sA 6 f' w)) ∧ T6 n N k f' := by
  obtain ⟨f', e, hT⟩ := sp12out (E := E) hd hR G h5 n 0 (gA w 6) jk jk (by omega) (fun a' b h => by omega)
  rw [sA_self] at e
  exact ⟨f', p12_e_a e, hT⟩
/-! the first cop moves -/
/-- an OR over near rooms, from partial ones -/
theorem HB_or {x y : Int32} {p q s : Nat → Bool} (hx : HB n x p) (hy : HB n y q) (h : ∀ r, r < n → s r = (p r || q r)) : HB n (x ||| y) s := by
  obtain ⟨v, v1, rfl, v3⟩ := hx
  obtain ⟨u, u1, rfl, u3⟩ := hy
  exact ⟨v ||| u, or_lt1024 v1 u1, by rw [I_or], fun r hr => by rw [Nat.testBit_or, v3 r hr, u3 r hr, h r hr]⟩
theorem HB_congr {x : Int32} {p q : Nat → Bool} (hx : HB n x p) (h : ∀ r, r < n → q r = p r) : HB n x q := by
  obtain ⟨v, v1, v2, v3⟩ := hx
  exact ⟨v, v1, v2, fun r hr => by rw [v3 r hr, h r hr]⟩
theorem HB_zero {q : Nat → Bool} (h : ∀ r, r < n → q r = false) : HB n (0 : Int32) q := ⟨0, by decide, rfl, fun r hr => by rw [h r hr]; simp⟩
theorem anyB_succ (p : Nat → Bool) (j : Nat) : anyB (j + 1) p = (anyB j p || p j) := rfl
theorem sp14in (hd : 3 ≤ d) (hR : GR w n N) (G : GW n N) {k a : Nat} (ha : a < n) (h6 : T6 n N k (gA w 6))
    (K : ∀ (f : Nat → Int32) (u v t : Value), (∀ a' b, a' < a + 1 → pl n b → HB n (f (pr a' b)) (fun r => omB n N k a' b r)) → ∃ f', Ev d 14 (2, [.ref 12, .ref 2, .int (I (a + 1)), u, v, t], [], hp E (sA 7 f w)) (.inl none, hp E (sA 7 f' w)) ∧ T7 n N k f') :
    ∀ (R b : Nat) (f : Nat → Int32) (v t : Value), b + R = 10 → (∀ a' b', a' < a → pl n b' → HB n (f (pr a' b')) (fun r => omB n N k a' b' r)) → (∀ b', b' < b → pl n b' → HB n (f (pr a b')) (fun r => omB n N k a b' r)) → ∃ f', Ev d 14 (12, [.ref 12, .ref 2, .int (I a), .int (I b), v, t], [], hp E (sA 7 f w)) (.inl none, hp E (sA 7 f' w)) ∧ T7 n N k f'
  | 0, b, f, v, t, hb, h1, h2 => by
    have : b = 10 := by omega
    subst this
    obtain ⟨f', e, hT⟩ := K f (.int (I 10)) v t (fun a' b' ha' hb' => by
      by_cases e : a' = a
      · subst e; exact h2 b' (by have := pl9 G.n9 hb'; omega) hb'
      · exact h1 a' b' (by omega) hb')
    exact ⟨f', p14_12_c nlt10 (I_add a 1) e, hT⟩
  | R + 1, b, f, v, t, hb, h1, h2 => by
    have hn := G.n9
    have hb9 : b ≤ 9 := by omega
    have hR' : GR (sA 7 f w) n N := hR
    have hp50 := sp46 (E := E) (d := d - 1) (by omega) hR' G hb9
    by_cases hpl : pl n b
    · have hpb : (decide (b < n) || decide (b = 9)) = true := pl_iff.mpr hpl
      rw [hpb] at hp50
      have IH := fun (x : Int32) (hx : HB n x (fun r => omB n N k a b r)) => sp14in hd hR G ha h6 K R (b + 1) (upd f (pr a b) x) (.int x) (.int (I n)) (by omega)
        (fun a' b' ha' hb' => by
          rw [upd_ne (fun z => by have := (pr_inj (pl9 hn hb') hb9 z).1; omega)]
          exact h1 a' b' ha' hb')
        (fun b' hb' hpb' => by
          by_cases e : b' = b
          · subst e; rw [upd_same]; exact hx
          · rw [upd_ne (fun z => e (pr_inj (by omega) hb9 z).2)]
            exact h2 b' (by omega) hpb')
      -- the sum is what it is: one number, found by the loop itself
      have run : ∀ (R c : Nat) (x : Int32), c + R = n → HB n x (fun r => anyB c (fun y => nr N a y && rbB n N (wc n N k) y b r)) → ∃ f', Ev d 14 (32, [.ref 12, .ref 2, .int (I a), .int (I b), .int x, .int (I c)], [], hp E (sA 7 f w)) (.inl none, hp E (sA 7 f' w)) ∧ T7 n N k f' := by
        intro R
        induction R with
        | zero =>
          intro c x hc hx
          have : c = n := by omega
          subst this
          obtain ⟨f', e, hT⟩ := IH x hx
          have hprl := pr_lt (show a < 9 by omega) hb9
          refine ⟨f', p14_32_c (by omega) (nlt_n hR.1 hn (Nat.le_refl _) (by omega)) (I_pr a b) (by omega) (I_add b 1) ?_ e, hT⟩
          rw [rp_in (by omega), sA_sA]; rfl
        | succ R ih =>
          intro c x hc hx
          have hprl := pr_lt (show c < 9 by omega) hb9
          have h3 := sp48 (E := E) (d := d - 1) (by omega) hR' G (show a ≤ 9 by omega) (show c ≤ 9 by omega)
          cases hq : nr N a c with
          | true =>
            rw [hq] at h3
            obtain ⟨f', e, hT⟩ := ih (c + 1) (x ||| rv 90 (gA w 6) (pr c b)) (by omega) (HB_or hx (q := fun r => rbB n N (wc n N k) c b r) (by rw [rv_in (by omega)]; exact h6 c b (by omega) hpl) (fun r hr => by
              show anyB (c + 1) _ = _
              rw [anyB_succ, hq, Bool.true_and]))
            exact ⟨f', p14_32_a (by omega) (lt_n hR.1 hn (by omega)) h3 (by decide) (I_pr c b) (by omega) rfl (I_add c 1) e, hT⟩
          | false =>
            rw [hq] at h3
            obtain ⟨f', e, hT⟩ := ih (c + 1) x (by omega) (HB_congr hx (fun r hr => by
              show anyB (c + 1) _ = _
              rw [anyB_succ, hq, Bool.false_and, Bool.or_false]))
            exact ⟨f', p14_32_b (by omega) (lt_n hR.1 hn (by omega)) h3 rfl (I_add c 1) e, hT⟩
      obtain ⟨f', e, hT⟩ := run n 0 0 (by omega) (HB_zero (fun r hr => rfl))
      exact ⟨f', p14_12_a (by omega) (lt10 (by omega)) hp50 (by decide) e, hT⟩
    · have hpb : (decide (b < n) || decide (b = 9)) = false := by
        cases hq : (decide (b < n) || decide (b = 9)) with
        | false => rfl
        | true => exact absurd (pl_iff.mp hq) hpl
      rw [hpb] at hp50
      obtain ⟨f', e, hT⟩ := sp14in hd hR G ha h6 K R (b + 1) f v t (by omega) h1 (fun b' hb' hpb' => by
        by_cases e : b' = b
        · subst e; exact absurd hpb' hpl
        · exact h2 b' (by omega) hpb')
      exact ⟨f', p14_12_b (by omega) (lt10 (by omega)) hp50 rfl (I_add b 1) e, hT⟩
theorem sp14out (hd : 3 ≤ d) (hR : GR w n N) (G : GW n N) {k : Nat} (h6 : T6 n N k (gA w 6)) : ∀ (R a : Nat) (f : Nat → Int32) (u v t : Value), a + R = n → (∀ a' b, a' < a → pl n b → HB n (f (pr a' b)) (fun r => omB n N k a' b r)) → ∃ f', Ev d 14 (2, [.ref 12, .ref 2, .int (I a), u, v, t], [], hp E (sA 7 f w)) (.inl none, hp E (sA 7 f' w)) ∧ T7 n N k f'
  | 0, a, f, u, v, t, ha, h1 => by
    have : a = n := by omega
    subst this
    exact ⟨f, p14_2_b (by omega) (nlt_n hR.1 G.n9 (Nat.le_refl _) (by have := G.n9; omega)), h1⟩
  | R + 1, a, f, u, v, t, ha, h1 => by
    obtain ⟨f', e, hT⟩ := sp14in hd hR G (show a < n by omega) h6 (fun f u v t h => sp14out hd hR G h6 R (a + 1) f u v t (by omega) h) 10 0 f v t (by omega) h1 (fun b' hb' => by omega)
    exact ⟨f', p14_2_a (by omega) (lt_n hR.1 G.n9 (by omega)) e, hT⟩
theorem sp14 (hd : 3 ≤ d) (hR : GR w n N) (G : GW n N) {k : Nat} (h6 : T6 n N k (gA w 6)) : ∃ f', Ev d 14 (ent0 14 [.ref 12, .ref 2] (hp E w)) (.inl none, hp E (sA 7 f' w)) ∧ T7 n N k f' := by
  obtain ⟨f', e, hT⟩ := sp14out (E := E) hd hR G h6 n 0 (gA w 7) jk jk jk (by omega) (fun a' b h => by omega)
  rw [sA_self] at e
  exact ⟨f', p14_e_a e, hT⟩
end
