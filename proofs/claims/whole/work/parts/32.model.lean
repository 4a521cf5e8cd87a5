/-! THE REFERENCE: its small methods. -/
section
variable {E : Nat × (Nat → Int32)} {w : Wd} {d n : Nat} {N : Nat → Nat}
theorem sA_self (j : Nat) (w : Wd) : sA j (gA w j) w = w := by
  obtain ⟨a, b⟩ := w
  unfold sA
  congr 1
  funext i
  show (bif Nat.beq i j then a j else a i) = a i
  cases h : Nat.beq i j with
  | true => rw [Nat.eq_of_beq_eq_true h]; rfl
  | false => rfl
theorem ra_zero (f : Nat → Int32) (v : Int32) : ra 0 f v = f := by
  funext i
  simp [ra]
theorem ra_upd (f : Nat → Int32) (v : Int32) (j : Nat) : upd (ra j f v) j v = ra (j + 1) f v := ra_step (Nat.lt_succ_self j)
theorem sp97 {x : Int32} : Ev d 97 (ent0 97 [.ref 27, .int x] (hp E w)) (.inl (some (.int (0 : Int32))), hp E (sF 8 x w)) := p97_e_a rfl
theorem sp98 {x : Int32} (hR : MR w n N) : Ev d 98 (ent0 98 [.ref 27, .int x] (hp E w)) (.inl (some (.int (bI (isR n x)))), hp E w) := by
  by_cases h0 : x < 0
  · rw [show isR n x = false by simp [isR, h0]]
    exact p98_e_c h0
  · by_cases h1 : x < I n
    · rw [show isR n x = true by simp [isR, h0, h1]]
      exact p98_e_a h0 (by rw [hR.1]; exact h1)
    · rw [show isR n x = false by simp [isR, h0, h1]]
      exact p98_e_b h0 (by rw [hR.1]; exact h1)
theorem sp99 (h : gF w 9 = I n) (hn : n ≤ 9) : Ev d 99 (ent0 99 [.ref 27] (hp E w)) (.inl (some (.int (I (2 ^ n - 1)))), hp E w) := by
  refine p99_e_a ?_
  rw [h, I_pow (by omega), show (1 : Int32) = I 1 from rfl, I_sub (Nat.one_le_two_pow)]
theorem sp100 {s : Nat} (hs : s < 512) : Ev d 100 (ent0 100 [.int (I s)] (hp E w)) (.inl (some (.int (I (pc s)))), hp E w) := by
  refine p100_e_a ?_
  refine loop_up (P := fun j a => (4, [.int (I s), .int (I a), .int (I j)], [], hp E w)) (fun k a => a + s / 2 ^ k % 2) 9 0 (fun j hj e => ?_) ?_
  · refine p100_4_a ((I_lt (by omega) (by decide)).mpr hj) ?_ (I_add _ _) e
    rw [I_shr (by omega) (by omega), show (1 : Int32) = I 1 from rfl, I_and, Nat.and_one_is_mod, I_add]
  · exact p100_4_b (fun z => Nat.lt_irrefl 9 ((I_lt (by decide) (by decide)).mp z))
theorem sp101 (h : gF w 9 = I n) (hn : n ≤ 9) (hd : 1 ≤ d) : Ev d 101 (ent0 101 [.ref 27] (hp E w)) (.inl none, hp E (sF 10 (I (2 ^ n - 1)) (sF 11 0 (sA 10 (ra 9 (gA w 10) 0) w)))) := by
  have key := down (n := 9) (Q := fun j => Ev d 101 (2, [.ref 27, .int (I j)], [], hp E (sA 10 (ra j (gA w 10) 0) w)) (.inl none, hp E (sF 10 (I (2 ^ n - 1)) (sF 11 0 (sA 10 (ra 9 (gA w 10) 0) w))))) (fun j hj e => ?_) ?_ 0 (by decide)
  · refine p101_e_a ?_
    rw [ra_zero, sA_self] at key
    exact key
  · refine p101_2_a ((I_lt (by omega) (by decide)).mpr hj) rfl hj (I_add j 1) ?_ e
    show sA 10 (upd (ra j (gA w 10) 0) j 0) (sA 10 (ra j (gA w 10) 0) w) = _
    rw [sA_sA, ra_upd]
  · exact p101_2_b hd (fun z => Nat.lt_irrefl 9 ((I_lt (by decide) (by decide)).mp z)) (sp99 (n := n) h hn) rfl
theorem sp103 (hd : 1 ≤ d) (hR : MR w n N) (G : GW n N) : Ev d 103 (ent0 103 [.ref 27] (hp E w)) (.inl (some (.int (I (dc2 n N / 2)))), hp E w) := by
  have hn := G.n9
  refine p103_e_a ?_
  refine loop_up (P := fun j a => (4, [.ref 27, .int (I a), .int (I j)], [], hp E w)) (fun k a => a + pc (N k)) n 0 (fun j hj e => ?_) ?_
  · exact p103_4_a hd (lt_n hR.1 hn hj) rfl (by omega) (hR.2 j (by omega)) (sp100 (G.lt j)) (I_add _ _) (I_add _ _) e
  · refine p103_4_b (nlt_n hR.1 hn (Nat.le_refl _) (by omega)) (I_half _ ?_)
    have : dc2 n N ≤ 9 * n := dc2_le N n
    show dc2 n N < 100
    omega
/-- the reference's put -/
def putf (f : Nat → Int32) (a b : Nat) (is : Bool) : Nat → Int32 := bif is then upd (upd f a (f a ||| I (2 ^ b))) b (upd f a (f a ||| I (2 ^ b)) b ||| I (2 ^ a)) else upd (upd f a (f a &&& (I (2 ^ b) ^^^ (-1 : Int32)))) b (upd f a (f a &&& (I (2 ^ b) ^^^ (-1 : Int32))) b &&& (I (2 ^ a) ^^^ (-1 : Int32)))
theorem sp104 {a b : Nat} {is : Bool} (ha : a < 9) (hb : b < 9) : Ev d 104 (ent0 104 [.ref 27, .int (I a), .int (I b), .int (bI is)] (hp E w)) (.inl none, hp E (sA 10 (putf (gA w 10) a b is) w)) := by
  cases is with
  | true =>
    refine p104_e_a (by decide) rfl ha (by decide) rfl hb ?_
    rw [I_pow (show b < 31 by omega), I_pow (show a < 31 by omega)]
    show sA 10 (upd (upd (gA w 10) a (gA w 10 a ||| I (2 ^ b))) b (upd (gA w 10) a (gA w 10 a ||| I (2 ^ b)) b ||| I (2 ^ a))) (sA 10 (upd (gA w 10) a (gA w 10 a ||| I (2 ^ b))) w) = _
    rw [sA_sA]; rfl
  | false =>
    refine p104_e_d (by decide) rfl ha (by decide) rfl hb ?_
    rw [I_pow (show b < 31 by omega), I_pow (show a < 31 by omega)]
    show sA 10 (upd (upd (gA w 10) a (gA w 10 a &&& (I (2 ^ b) ^^^ (-1 : Int32)))) b (upd (gA w 10) a (gA w 10 a &&& (I (2 ^ b) ^^^ (-1 : Int32))) b &&& (I (2 ^ a) ^^^ (-1 : Int32)))) (sA 10 (upd (gA w 10) a (gA w 10 a &&& (I (2 ^ b) ^^^ (-1 : Int32)))) w) = _
    rw [sA_sA]; rfl
theorem or_pow_xor {x j : Nat} (h : x.testBit j = false) : x ||| 2 ^ j = x ^^^ 2 ^ j := by
  apply Nat.eq_of_testBit_eq
  intro i
  rw [Nat.testBit_or, Nat.testBit_xor, Nat.testBit_two_pow]
  by_cases hi : j = i
  · subst hi; simp [h]
  · simp [hi]
theorem nd_pow_xor {x j : Nat} (hx : x < 512) (h : x.testBit j = true) : nd x (2 ^ j) = x ^^^ 2 ^ j := by
  apply Nat.eq_of_testBit_eq
  intro i
  rw [tb_nd hx, Nat.testBit_xor, Nat.testBit_two_pow]
  by_cases hi : j = i
  · subst hi; simp [h]
  · simp [hi]
/-- put against what was there, is a door turned -/
theorem MR_put {a b : Nat} {is : Bool} (hR : MR w n N) (G : GW n N) (hab : a ≠ b) (ha : a < 9) (hb : b < 9) (hw : (N a).testBit b = !is) : MR (sA 10 (putf (gA w 10) a b is) w) n (tog N a b) := by
  refine ⟨hR.1, fun r h9 => ?_⟩
  show putf (gA w 10) a b is r = I (tog N a b r)
  have hr := hR.2 r h9
  have hra := hR.2 a ha
  have hrb := hR.2 b hb
  have hw2 : (N b).testBit a = !is := by rw [G.2.2.2.2.1]; exact hw
  unfold putf tog
  cases is with
  | true =>
    show upd (upd (gA w 10) a _) b _ r = _
    rw [upd_ap]
    by_cases h1 : r = b
    · rw [if_pos h1, if_pos h1, upd_ap, if_neg (Ne.symm hab), hrb, I_or, or_pow_xor hw2]
    · rw [if_neg h1, if_neg h1, upd_ap]
      by_cases h2 : r = a
      · rw [if_pos h2, if_pos h2, hra, I_or, or_pow_xor hw]
      · rw [if_neg h2, if_neg h2, hr]
  | false =>
    show upd (upd (gA w 10) a _) b _ r = _
    rw [upd_ap]
    by_cases h1 : r = b
    · rw [if_pos h1, if_pos h1, upd_ap, if_neg (Ne.symm hab), hrb, I_nd _ (G.lt b), nd_pow_xor (G.lt b) hw2]
    · rw [if_neg h1, if_neg h1, upd_ap]
      by_cases h2 : r = a
      · rw [if_pos h2, if_pos h2, hra, I_nd _ (G.lt a), nd_pow_xor (G.lt a) hw]
      · rw [if_neg h2, if_neg h2, hr]
theorem sp108 {s r : Nat} (hR : MR w n N) (G : GW n N) (hs : s < 512) (hr : r < 9) : Ev d 108 (ent0 108 [.ref 27, .int (I s), .int (I r)] (hp E w)) (.inl (some (.int (I (nts n N (nd s (2 ^ r)))))), hp E w) := by
  have hn := G.n9
  have hq : nd s (2 ^ r) < 512 := nd_lt hs
  refine p108_e_a (y3 := I (nd s (2 ^ r))) (by rw [I_pow (by omega), I_nd _ hs]) ?_
  refine loop_up (P := fun j a => (14, [.ref 27, .int (I s), .int (I r), .int (I (nd s (2 ^ r))), .int (I a), .int (I j)], [], hp E w)) (fun k a => if (nd s (2 ^ r)).testBit k = true then a ||| N k else a) n 0 (fun j hj e => ?_) ?_
  · by_cases hb : (nd s (2 ^ r)).testBit j = true
    · rw [if_pos hb] at e
      exact p108_14_a (lt_n hR.1 hn hj) (shr1T (by omega) (by omega) hb) rfl (by omega) (by rw [hR.2 j (by omega), I_or]) (I_add _ _) e
    · rw [if_neg hb] at e
      exact p108_14_b (lt_n hR.1 hn hj) (shr1F (by omega) (by omega) (by simpa using hb)) (by rw [show (0 : Int32) = I 0 from rfl, I_or, Nat.or_zero]) (I_add _ _) e
  · exact p108_14_c (nlt_n hR.1 hn (Nat.le_refl _) (by omega))
theorem sp114 {a b : Nat} (hR : MR w n N) (G : GW n N) (ha : a < 9) (hb : b < 9) : Ev d 114 (ent0 114 [.ref 27, .int (I a), .int (I b)] (hp E w)) (.inl (some (.int (bI (nr N a b)))), hp E w) := by
  have hN := tb_big (G.lt a)
  by_cases h : a = b
  · subst h
    rw [nr_self]
    exact p114_e_c rfl
  · have hne : ¬ I a = I b := fun z => h ((I_inj (by omega) (by omega)).mp z)
    unfold nr
    rw [decide_eq_false h, Bool.false_or]
    cases hb2 : (N a).testBit b with
    | true => exact p114_e_a hne rfl ha (by rw [hR.2 a ha]; exact shr1T hN (by omega) hb2)
    | false => exact p114_e_b hne rfl ha (by rw [hR.2 a ha]; exact shr1F hN (by omega) hb2)
theorem nr_9 (G : GW n N) {b : Nat} (hb : b ≠ 9) : nr N 9 b = false := by
  unfold nr
  rw [decide_eq_false (Ne.symm hb), G.2.2.2.1 9 G.n9]
  simp
theorem nr_to9 (G : GW n N) {a : Nat} (ha : a ≠ 9) : nr N a 9 = false := by
  unfold nr
  rw [decide_eq_false ha, tb_hi (G.lt a) (Nat.le_refl 9)]
  rfl
theorem sp115 {a b : Nat} (hd : 1 ≤ d) (hR : MR w n N) (G : GW n N) (ha : a ≤ 9) (hb : b ≤ 9) : Ev d 115 (ent0 115 [.ref 27, .int (I a), .int (I b)] (hp E w)) (.inl (some (.int (bI (nr N a b)))), hp E w) := by
  by_cases h1 : a = 9
  · subst h1
    by_cases h2 : b = 9
    · subst h2
      rw [nr_self]
      exact p115_e_a rfl rfl
    · rw [nr_9 G h2]
      exact p115_e_b rfl (fun z => h2 ((I_inj (by omega) (by omega)).mp (show I b = I 9 from z)))
  · have h1' : ¬ I a = (9 : Int32) := fun z => h1 ((I_inj (by omega) (by omega)).mp (show I a = I 9 from z))
    by_cases h2 : b = 9
    · subst h2
      rw [nr_to9 G h1]
      exact p115_e_e h1' (fun z => Nat.lt_irrefl 9 ((I_lt (by decide) (by decide)).mp z))
    · have h2' : I b < (9 : Int32) := show I b < I 9 from (I_lt (by omega) (by decide)).mpr (by omega)
      have h3 := sp114 (E := E) (d := d - 1) hR G (a := a) (b := b) (by omega) (by omega)
      cases hq : nr N a b with
      | true =>
        rw [hq] at h3
        exact p115_e_c hd h1' h2' h3 (by decide)
      | false =>
        rw [hq] at h3
        exact p115_e_d hd h1' h2' h3 rfl
/-- are they rooms, the second one perhaps none -/
def areR (n : Nat) (a b c : Int32) : Bool := isR n a && ((decide (b = -1) || isR n b) && isR n c)
theorem sp119 {a b c : Int32} (hd : 1 ≤ d) (hR : MR w n N) : Ev d 119 (ent0 119 [.ref 27, .int a, .int b, .int c] (hp E w)) (.inl (some (.int (bI (areR n a b c)))), hp E w) := by
  have ha := sp98 (E := E) (d := d - 1) (x := a) hR
  have hb := sp98 (E := E) (d := d - 1) (x := b) hR
  have hc := sp98 (E := E) (d := d - 1) (x := c) hR
  unfold areR
  cases h1 : isR n a with
  | false =>
    rw [h1] at ha
    exact p119_e_f hd ha rfl
  | true =>
    rw [h1] at ha
    by_cases h2 : b = -1
    · rw [decide_eq_true h2]
      cases h3 : isR n c with
      | true => rw [h3] at hc; exact p119_e_d hd ha (by decide) h2 hc (by decide)
      | false => rw [h3] at hc; exact p119_e_e hd ha (by decide) h2 hc rfl
    · rw [decide_eq_false h2]
      cases h4 : isR n b with
      | false => rw [h4] at hb; exact p119_e_c hd ha (by decide) h2 hb rfl
      | true =>
        rw [h4] at hb
        cases h3 : isR n c with
        | true => rw [h3] at hc; exact p119_e_a hd ha (by decide) h2 hb (by decide) hc (by decide)
        | false => rw [h3] at hc; exact p119_e_b hd ha (by decide) h2 hb (by decide) hc rfl
end
