/-! BITS, GRAPHS, LOOPS. -/
section
theorem down {Q : Nat → Prop} {n : Nat} (step : ∀ j, j < n → Q (j + 1) → Q j) (e : Q n) : ∀ j, j ≤ n → Q j := by
  intro j hj
  have key : ∀ m, m ≤ n → Q (n - m) := by
    intro m
    induction m with
    | zero => intro _; exact e
    | succ m ih =>
      intro hm
      have h1 := ih (by omega)
      rw [show n - m = (n - (m + 1)) + 1 by omega] at h1
      exact step (n - (m + 1)) (by omega) h1
  have := key (n - j) (by omega)
  rw [show n - (n - j) = j by omega] at this
  exact this
def bI (b : Bool) : Int32 := bif b then 1 else 0
theorem bI_and (b : Bool) : bI b &&& 1 = bI b := by cases b <;> rfl
theorem bI_or (a b : Bool) : bI a ||| bI b = bI (a || b) := by cases a <;> cases b <;> rfl
theorem bI_t {b : Bool} (h : b = true) : ¬ bI b = 0 := by subst h; decide
theorem bI_f {b : Bool} (h : b = false) : bI b = 0 := by subst h; rfl
theorem bI_0 : bI false = 0 := rfl
theorem bI_1 : bI true = 1 := rfl
/-- a without b, nine bits -/
def nd (a b : Nat) : Nat := a &&& (b ^^^ 511)
theorem tb_hi {a i : Nat} (h : a < 512) (hi : 9 ≤ i) : a.testBit i = false := Nat.testBit_lt_two_pow (Nat.lt_of_lt_of_le h (by rw [show (512 : Nat) = 2 ^ 9 from rfl]; exact Nat.pow_le_pow_right (by decide) hi))
theorem tb_lo {a i : Nat} (h : a < 512) (hi : a.testBit i = true) : i < 9 := by
  rcases Nat.lt_or_ge i 9 with h1 | h1
  · exact h1
  · rw [tb_hi h h1] at hi; cases hi
theorem tb_511 (i : Nat) : (511 : Nat).testBit i = decide (i < 9) := Nat.testBit_two_pow_sub_one 9 i
theorem tb_nd {a b : Nat} (h : a < 512) (i : Nat) : (nd a b).testBit i = (a.testBit i && !b.testBit i) := by
  unfold nd
  rw [Nat.testBit_and, Nat.testBit_xor, tb_511]
  rcases Nat.lt_or_ge i 9 with h1 | h1
  · simp [h1]
  · simp [tb_hi h h1]
theorem nd_lt {a b : Nat} (h : a < 512) : nd a b < 512 := Nat.lt_of_le_of_lt Nat.and_le_left h
theorem I_m1 : (-1 : Int32) = I 4294967295 := by decide
theorem I_nd {a : Nat} (b : Nat) (h : a < 512) : I a &&& (I b ^^^ (-1 : Int32)) = I (nd a b) := by
  rw [I_m1, I_xor, I_and]
  congr 1
  apply Nat.eq_of_testBit_eq
  intro i
  rw [tb_nd h, Nat.testBit_and, Nat.testBit_xor, show (4294967295 : Nat) = 2 ^ 32 - 1 from rfl, Nat.testBit_two_pow_sub_one]
  rcases Nat.lt_or_ge i 9 with h1 | h1
  · simp [show i < 32 by omega]
  · simp [tb_hi h h1]
theorem I_pow {j : Nat} (h : j < 31) : (1 : Int32) <<< (I j &&& 31) = I (2 ^ j) := I_shl1 j h
theorem pow_lt31 {j : Nat} (h : j < 31) : 2 ^ j < 2147483648 := by
  rw [show (2147483648 : Nat) = 2 ^ 31 from rfl]
  exact Nat.pow_lt_pow_right (by decide) h
theorem and_pow_zero (s j : Nat) : s &&& 2 ^ j = 0 ↔ s.testBit j = false := by
  constructor
  · intro h
    have h1 := congrArg (fun z : Nat => z.testBit j) h
    simp only [Nat.testBit_and, Nat.testBit_two_pow_self, Nat.zero_testBit, Bool.and_true] at h1
    exact h1
  · intro h
    apply Nat.eq_of_testBit_eq
    intro i
    rw [Nat.testBit_and, Nat.zero_testBit, Nat.testBit_two_pow]
    by_cases hi : j = i
    · subst hi; simp [h]
    · simp [hi]
theorem bit0 {s j : Nat} (hs : s < 2147483648) (hj : j < 31) : (I s &&& ((1 : Int32) <<< (I j &&& 31))) = 0 ↔ s.testBit j = false := by
  rw [I_pow hj, I_and, show (0 : Int32) = I 0 from rfl, I_inj (Nat.lt_of_le_of_lt Nat.and_le_left hs) (by decide), and_pow_zero]
theorem bit0F {s j : Nat} (hs : s < 2147483648) (hj : j < 31) (h : s.testBit j = false) : (I s &&& ((1 : Int32) <<< (I j &&& 31))) = 0 := (bit0 hs hj).mpr h
theorem bit0T {s j : Nat} (hs : s < 2147483648) (hj : j < 31) (h : s.testBit j = true) : ¬ (I s &&& ((1 : Int32) <<< (I j &&& 31))) = 0 := fun z => by
  rw [(bit0 hs hj).mp z] at h; cases h
theorem shr1 {s j : Nat} (hs : s < 2147483648) (hj : j < 31) : ((I s >>> (I j &&& 31)) &&& 1) = bI (s.testBit j) := by
  rw [I_shr hs hj, show (1 : Int32) = I 1 from rfl, I_and, Nat.and_one_is_mod, Nat.testBit_eq_decide_div_mod_eq]
  rcases Nat.mod_two_eq_zero_or_one (s / 2 ^ j) with h | h
  · rw [h]; rfl
  · rw [h]; rfl
theorem shr1T {s j : Nat} (hs : s < 2147483648) (hj : j < 31) (h : s.testBit j = true) : ((I s >>> (I j &&& 31)) &&& 1) = 1 := by rw [shr1 hs hj, h]; rfl
theorem shr1F {s j : Nat} (hs : s < 2147483648) (hj : j < 31) (h : s.testBit j = false) : ¬ ((I s >>> (I j &&& 31)) &&& 1) = 1 := by rw [shr1 hs hj, h]; decide
/-- how many bits -/
def pc (s : Nat) : Nat := fl (fun k a => a + s / 2 ^ k % 2) 9 0
theorem pc_le (s : Nat) : pc s ≤ 9 := by
  have h : ∀ k, fl (fun k a => a + s / 2 ^ k % 2) k 0 ≤ k := by
    intro k
    induction k with
    | zero => exact Nat.le_refl _
    | succ k ih =>
      show fl (fun k a => a + s / 2 ^ k % 2) k 0 + s / 2 ^ k % 2 ≤ k + 1
      have := Nat.mod_lt (s / 2 ^ k) (show 2 > 0 by decide)
      omega
  exact h 9
def anyB (n : Nat) (p : Nat → Bool) : Bool := fl (fun k a => a || p k) n false
theorem anyB_iff {p : Nat → Bool} : ∀ {n : Nat}, anyB n p = true ↔ ∃ k, k < n ∧ p k = true
  | 0 => by simp [anyB, fl]
  | n + 1 => by
    have ih := anyB_iff (p := p) (n := n)
    have e : anyB (n + 1) p = (anyB n p || p n) := rfl
    rw [e, Bool.or_eq_true, ih]
    constructor
    · rintro (⟨k, hk, hp⟩ | hp)
      · exact ⟨k, by omega, hp⟩
      · exact ⟨n, by omega, hp⟩
    · rintro ⟨k, hk, hp⟩
      by_cases h : k = n
      · subst h; exact Or.inr hp
      · exact Or.inl ⟨k, by omega, hp⟩
theorem anyB_false {p : Nat → Bool} {n : Nat} : anyB n p = false ↔ ∀ k, k < n → p k = false := by
  constructor
  · intro h k hk
    cases hp : p k with
    | false => rfl
    | true =>
      rw [anyB_iff.mpr ⟨k, hk, hp⟩] at h; cases h
  · intro h
    cases ha : anyB n p with
    | false => rfl
    | true =>
      obtain ⟨k, hk, hp⟩ := anyB_iff.mp ha
      rw [h k hk] at hp; cases hp
theorem bool_eq {a b : Bool} (h : a = true ↔ b = true) : a = b := by
  cases a <;> cases b <;> simp_all
/-! GRAPHS -/
/-- a graph: n rooms, of each the set of those next to it -/
def GW (n : Nat) (N : Nat → Nat) : Prop := 1 ≤ n ∧ n ≤ 9 ∧ (∀ i, N i < 2 ^ n) ∧ (∀ i, n ≤ i → N i = 0) ∧ (∀ i j, (N i).testBit j = (N j).testBit i) ∧ ∀ i, (N i).testBit i = false
/-- the class holds it, the reference holds it -/
def GR (w : Wd) (n : Nat) (N : Nat → Nat) : Prop := gF w 1 = I n ∧ ∀ r, rv 9 (gA w 0) r = I (N r)
def MR (w : Wd) (n : Nat) (N : Nat → Nat) : Prop := gF w 9 = I n ∧ ∀ r, r < 9 → gA w 10 r = I (N r)
theorem two_pow_le {n : Nat} (h : n ≤ 9) : 2 ^ n ≤ 512 := Nat.pow_le_pow_right (n := 2) (by decide) h
theorem GW.lt {n : Nat} {N : Nat → Nat} (G : GW n N) (i : Nat) : N i < 512 := Nat.lt_of_lt_of_le (G.2.2.1 i) (two_pow_le G.2.1)
theorem GW.n9 {n : Nat} {N : Nat → Nat} (G : GW n N) : n ≤ 9 := G.2.1
theorem GW.n1 {n : Nat} {N : Nat → Nat} (G : GW n N) : 1 ≤ n := G.1
theorem GW.tb {n : Nat} {N : Nat → Nat} (G : GW n N) {i j : Nat} (h : (N i).testBit j = true) : i < n ∧ j < n := by
  have h1 : ∀ {i j : Nat}, (N i).testBit j = true → j < n := fun {i j} h => by
    rcases Nat.lt_or_ge j n with h2 | h2
    · exact h2
    · rw [Nat.testBit_lt_two_pow (Nat.lt_of_lt_of_le (G.2.2.1 i) (Nat.pow_le_pow_right (by decide) h2))] at h; cases h
  exact ⟨h1 (by rw [G.2.2.2.2.1]; exact h), h1 h⟩
/-- near: next, or the same -/
def nr (N : Nat → Nat) (a b : Nat) : Bool := decide (a = b) || (N a).testBit b
theorem nr_self (N : Nat → Nat) (a : Nat) : nr N a a = true := by simp [nr]
theorem nr_symm {n : Nat} {N : Nat → Nat} (G : GW n N) (a b : Nat) : nr N a b = nr N b a := by
  unfold nr
  rw [G.2.2.2.2.1 a b, show decide (a = b) = decide (b = a) from decide_eq_decide.mpr eq_comm]
theorem nr_lt {n : Nat} {N : Nat → Nat} (G : GW n N) {a b : Nat} (ha : a < n) (h : nr N a b = true) : b < n := by
  unfold nr at h
  rcases (Bool.or_eq_true _ _ ▸ h) with h1 | h1
  · have := of_decide_eq_true h1; omega
  · exact (G.tb h1).2
theorem lt_n {n j : Nat} {x : Int32} (h : x = I n) (hn : n ≤ 9) (hj : j < n) : I j < x := by rw [h]; exact (I_lt (by omega) (by omega)).mpr hj
theorem nlt_n {n j : Nat} {x : Int32} (h : x = I n) (hn : n ≤ 9) (hj : n ≤ j) (hj2 : j ≤ 100) : ¬ I j < x := by rw [h, I_lt (by omega) (by omega)]; omega
theorem tb_big {a : Nat} (h : a < 512) : a < 2147483648 := by omega
end
