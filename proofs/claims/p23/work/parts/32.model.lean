/-! THE REFERENCE: its small methods. -/
section
variable {E : Nat × (Nat → Int32)} {w : Wd} {d n : Nat} {N : Nat → Nat}
theorem sA_self (j : Nat) (w : Wd) : sA j (gA w j) w = w := by
  obtain ⟨a, b⟩ := w
  unfold sA
  congr 1
  funext i
  show (bif Nat.beq i j then a j else a i) = a i
  cases h : Nat.beq i j with
  | true => rw [Nat.eq_of_beq_eq_true h]; rfl
  | false => rfl
theorem ra_zero (f : Nat → Int32) (v : Int32) : ra 0 f v = f := by
  funext i
  simp [ra]
theorem ra_upd (f : Nat → Int32) (v : Int32) (j : Nat) : upd (ra j f v) j v = ra (j + 1) f v := ra_step (Nat.lt_succ_self j)
/-- the reference's put -/
def putf (f : Nat → Int32) (a b : Nat) (is : Bool) : Nat → Int32 := bif is then upd (upd f a (f a ||| I (2 ^ b))) b (upd f a (f a ||| I (2 ^ b)) b ||| I (2 ^ a)) else upd (upd f a (f a &&& (I (2 ^ b) ^^^ (-1 : Int32)))) b (upd f a (f a &&& (I (2 ^ b) ^^^ (-1 : Int32))) b &&& (I (2 ^ a) ^^^ (-1 : Int32)))
theorem or_pow_xor {x j : Nat} (h : x.testBit j = false) : x ||| 2 ^ j = x ^^^ 2 ^ j := by
  apply Nat.eq_of_testBit_eq
  intro i
  rw [Nat.testBit_or, Nat.testBit_xor, Nat.testBit_two_pow]
  by_cases hi : j = i
  · subst hi; simp [h]
  · simp [hi]
theorem nd_pow_xor {x j : Nat} (hx : x < 512) (h : x.testBit j = true) : nd x (2 ^ j) = x ^^^ 2 ^ j := by
  apply Nat.eq_of_testBit_eq
  intro i
  rw [tb_nd hx, Nat.testBit_xor, Nat.testBit_two_pow]
  by_cases hi : j = i
  · subst hi; simp [h]
  · simp [hi]
/-- put against what was there, is a door turned -/
theorem MR_put {a b : Nat} {is : Bool} (hR : MR w n N) (G : GW n N) (hab : a ≠ b) (ha : a < 9) (hb : b < 9) (hw : (N a).testBit b = !is) : MR (sA 10 (putf (gA w 10) a b is) w) n (tog N a b) := by
  refine ⟨hR.1, fun r h9 => ?_⟩
  show putf (gA w 10) a b is r = I (tog N a b r)
  have hr := hR.2 r h9
  have hra := hR.2 a ha
  have hrb := hR.2 b hb
  have hw2 : (N b).testBit a = !is := by rw [G.2.2.2.2.1]; exact hw
  unfold putf tog
  cases is with
  | true =>
    show upd (upd (gA w 10) a _) b _ r = _
    rw [upd_ap]
    by_cases h1 : r = b
    · rw [if_pos h1, if_pos h1, upd_ap, if_neg (Ne.symm hab), hrb, I_or, or_pow_xor hw2]
    · rw [if_neg h1, if_neg h1, upd_ap]
      by_cases h2 : r = a
      · rw [if_pos h2, if_pos h2, hra, I_or, or_pow_xor hw]
      · rw [if_neg h2, if_neg h2, hr]
  | false =>
    show upd (upd (gA w 10) a _) b _ r = _
    rw [upd_ap]
    by_cases h1 : r = b
    · rw [if_pos h1, if_pos h1, upd_ap, if_neg (Ne.symm hab), hrb, I_nd _ (G.lt b), nd_pow_xor (G.lt b) hw2]
    · rw [if_neg h1, if_neg h1, upd_ap]
      by_cases h2 : r = a
      · rw [if_pos h2, if_pos h2, hra, I_nd _ (G.lt a), nd_pow_xor (G.lt a) hw]
      · rw [if_neg h2, if_neg h2, hr]
theorem nr_9 (G : GW n N) {b : Nat} (hb : b ≠ 9) : nr N 9 b = false := by
  unfold nr
  rw [decide_eq_false (Ne.symm hb), G.2.2.2.1 9 G.n9]
  simp
theorem nr_to9 (G : GW n N) {a : Nat} (ha : a ≠ 9) : nr N a 9 = false := by
  unfold nr
  rw [decide_eq_false ha, tb_hi (G.lt a) (Nat.le_refl 9)]
  rfl
/-- are they rooms, the second one perhaps none -/
def areR (n : Nat) (a b c : Int32) : Bool := isR n a && ((decide (b = -1) || isR n b) && isR n c)
end
