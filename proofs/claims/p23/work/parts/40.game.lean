/-! THE CHASE: numbers. -/
section
variable {n : Nat} {N : Nat → Nat}
/-- caught now -/
def ctB (a b r : Nat) : Bool := decide (a = r) || decide (b = r)
theorem ct_iff {a b r : Nat} : ctB a b r = true ↔ a = r ∨ b = r := by simp [ctB]
/-- caught, the robber moving first, with W behind its move -/
def rbB (n : Nat) (N : Nat → Nat) (W : Nat → Nat → Nat → Bool) (a b r : Nat) : Bool := ctB a b r || !(anyB n (fun x => nr N r x && !(W a b x)))
theorem rb_iff {W : Nat → Nat → Nat → Bool} {a b r : Nat} : rbB n N W a b r = true ↔ (a = r ∨ b = r) ∨ ∀ x, x < n → nr N r x = true → W a b x = true := by
  unfold rbB
  rw [Bool.or_eq_true, ct_iff, Bool.not_eq_true', anyB_false]
  constructor
  · rintro (h | h)
    · exact Or.inl h
    · refine Or.inr (fun x hx hn => ?_)
      have := h x hx
      rw [hn] at this
      simpa using this
  · rintro (h | h)
    · exact Or.inl h
    · refine Or.inr (fun x hx => ?_)
      cases hn : nr N r x with
      | false => rfl
      | true => rw [h x hx hn]; rfl
/-- caught with at most k moves of the cops, the cops moving first -/
def wc (n : Nat) (N : Nat → Nat) : Nat → Nat → Nat → Nat → Bool
  | 0, a, b, r => ctB a b r
  | k + 1, a, b, r => ctB a b r || anyB n (fun x => nr N a x && anyB 10 (fun y => nr N b y && rbB n N (wc n N k) x y r))
theorem wc_succ {k a b r : Nat} : wc n N (k + 1) a b r = true ↔ (a = r ∨ b = r) ∨ ∃ x, x < n ∧ nr N a x = true ∧ ∃ y, y < 10 ∧ nr N b y = true ∧ rbB n N (wc n N k) x y r = true := by
  show (ctB a b r || anyB n (fun x => nr N a x && anyB 10 (fun y => nr N b y && rbB n N (wc n N k) x y r))) = true ↔ _
  rw [Bool.or_eq_true, ct_iff, anyB_iff]
  constructor
  · rintro (h | ⟨x, hx, h⟩)
    · exact Or.inl h
    · rw [Bool.and_eq_true, anyB_iff] at h
      obtain ⟨h1, y, hy, h2⟩ := h
      rw [Bool.and_eq_true] at h2
      exact Or.inr ⟨x, hx, h1, y, hy, h2.1, h2.2⟩
  · rintro (h | ⟨x, hx, h1, y, hy, h2, h3⟩)
    · exact Or.inl h
    · refine Or.inr ⟨x, hx, ?_⟩
      rw [Bool.and_eq_true, anyB_iff]
      exact ⟨h1, y, hy, by rw [Bool.and_eq_true]; exact ⟨h2, h3⟩⟩
theorem wc_caught {k a b r : Nat} (h : a = r ∨ b = r) : wc n N k a b r = true := by
  cases k with
  | zero => exact ct_iff.mpr h
  | succ k => exact wc_succ.mpr (Or.inl h)
theorem rb_mono {W W' : Nat → Nat → Nat → Bool} (hW : ∀ a b r, W a b r = true → W' a b r = true) {a b r : Nat} (h : rbB n N W a b r = true) : rbB n N W' a b r = true := by
  rw [rb_iff] at h ⊢
  rcases h with h | h
  · exact Or.inl h
  · exact Or.inr (fun x hx hn => hW _ _ _ (h x hx hn))
theorem wc_step : ∀ {k a b r : Nat}, wc n N k a b r = true → wc n N (k + 1) a b r = true
  | 0, a, b, r, h => wc_caught (ct_iff.mp h)
  | k + 1, a, b, r, h => by
    rcases wc_succ.mp h with h1 | ⟨x, hx, h1, y, hy, h2, h3⟩
    · exact wc_caught h1
    · exact wc_succ.mpr (Or.inr ⟨x, hx, h1, y, hy, h2, rb_mono (fun _ _ _ => wc_step) h3⟩)
theorem wc_le {k j a b r : Nat} (h : k ≤ j) (h1 : wc n N k a b r = true) : wc n N j a b r = true := by
  obtain ⟨i, rfl⟩ : ∃ i, j = k + i := ⟨j - k, by omega⟩
  clear h
  induction i with
  | zero => exact h1
  | succ i ih => exact wc_step ih
theorem rb_le {k j a b r : Nat} (h : k ≤ j) (h1 : rbB n N (wc n N k) a b r = true) : rbB n N (wc n N j) a b r = true := rb_mono (fun _ _ _ => wc_le h) h1
/-- places: rooms, and 9 for a cop that is not there -/
def pl (n b : Nat) : Prop := b < n ∨ b = 9
def plB (n b : Nat) : Bool := decide (b < n) || decide (b = 9)
theorem pl_iff {b : Nat} : plB n b = true ↔ pl n b := by simp [plB, pl]
theorem pl9 (hn : n ≤ 9) {b : Nat} (h : pl n b) : b ≤ 9 := by rcases h with h | h <;> omega
theorem pl_near (G : GW n N) {b y : Nat} (hb : pl n b) (h : nr N b y = true) : pl n y := by
  rcases hb with hb | hb
  · exact Or.inl (nr_lt G hb h)
  · subst hb
    by_cases hy : y = 9
    · exact Or.inr hy
    · rw [nr_9 G hy] at h; cases h
/-- THE FACT: no time of 99 or more -/
def CAP (n : Nat) (N : Nat → Nat) : Prop := ∀ k a b r, a < n → pl n b → r < n → wc n N k a b r = true → wc n N 98 a b r = true
/-- the time, the cops moving first; 99: none -/
def tau (n : Nat) (N : Nat → Nat) (a b r : Nat) : Nat := ff (fun k => wc n N k a b r) 99 0
def rho (n : Nat) (N : Nat → Nat) (a b r : Nat) : Nat := ff (fun k => rbB n N (wc n N k) a b r) 99 0
theorem tau_le (a b r : Nat) : tau n N a b r ≤ 99 := ff_le _ 99 0
theorem rho_le (a b r : Nat) : rho n N a b r ≤ 99 := ff_le _ 99 0
theorem tau_yes {a b r : Nat} (h : tau n N a b r < 99) : wc n N (tau n N a b r) a b r = true := ff_yes (fun k => wc n N k a b r) 99 0 (by show tau n N a b r < 0 + 99; omega)
theorem tau_no {a b r k : Nat} (h : k < tau n N a b r) : wc n N k a b r = false := ff_no (fun k => wc n N k a b r) 99 0 k (Nat.zero_le _) h
theorem tau_le_of {a b r k : Nat} (h : wc n N k a b r = true) : tau n N a b r ≤ k := by
  rcases Nat.lt_or_ge k (tau n N a b r) with h1 | h1
  · rw [tau_no h1] at h; cases h
  · exact h1
theorem rho_yes {a b r : Nat} (h : rho n N a b r < 99) : rbB n N (wc n N (rho n N a b r)) a b r = true := ff_yes (fun k => rbB n N (wc n N k) a b r) 99 0 (by show rho n N a b r < 0 + 99; omega)
theorem rho_no {a b r k : Nat} (h : k < rho n N a b r) : rbB n N (wc n N k) a b r = false := ff_no (fun k => rbB n N (wc n N k) a b r) 99 0 k (Nat.zero_le _) h
theorem rho_le_of {a b r k : Nat} (h : rbB n N (wc n N k) a b r = true) : rho n N a b r ≤ k := by
  rcases Nat.lt_or_ge k (rho n N a b r) with h1 | h1
  · rw [rho_no h1] at h; cases h
  · exact h1
theorem wc_tau {a b r k : Nat} (hk : k < 99) : wc n N k a b r = true ↔ tau n N a b r ≤ k :=
  ⟨tau_le_of, fun h => wc_le h (tau_yes (by omega))⟩
theorem rb_rho {a b r k : Nat} (hk : k < 99) : rbB n N (wc n N k) a b r = true ↔ rho n N a b r ≤ k :=
  ⟨rho_le_of, fun h => rb_le h (rho_yes (by omega))⟩
theorem tau_zero {a b r : Nat} : tau n N a b r = 0 ↔ a = r ∨ b = r := by
  rw [show (tau n N a b r = 0) ↔ tau n N a b r ≤ 0 from ⟨Nat.le_of_eq, fun h => by omega⟩, ← wc_tau (by decide)]
  exact ct_iff
theorem rho_zero_of {a b r : Nat} (h : a = r ∨ b = r) : rho n N a b r = 0 := by
  have := rho_le_of (n := n) (N := N) (k := 0) (rb_iff.mpr (Or.inl h))
  omega
/-- sets by a test -/
def setB (n : Nat) (p : Nat → Bool) : Nat := fl (fun k a => if p k = true then a ||| 2 ^ k else a) n 0
theorem setB_tb (p : Nat → Bool) : ∀ (n j : Nat), (setB n p).testBit j = (decide (j < n) && p j)
  | 0, j => by simp [setB, fl]
  | n + 1, j => by
    have ih := setB_tb p n j
    show (if p n = true then setB n p ||| 2 ^ n else setB n p).testBit j = _
    by_cases hp : p n = true
    · rw [if_pos hp, Nat.testBit_or, ih, Nat.testBit_two_pow]
      by_cases h : n = j
      · subst h; simp [hp]
      · have : (decide (j < n + 1)) = decide (j < n) := decide_eq_decide.mpr ⟨fun _ => by omega, fun _ => by omega⟩
        simp [h, this]
    · rw [if_neg hp, ih]
      by_cases h : n = j
      · subst h
        simp [hp]
      · have : (decide (j < n + 1)) = decide (j < n) := decide_eq_decide.mpr ⟨fun _ => by omega, fun _ => by omega⟩
        rw [this]
theorem setB_lt (p : Nat → Bool) (n : Nat) : setB n p < 2 ^ n := Nat.lt_pow_two_of_testBit _ (fun i hi => by
  rw [setB_tb, decide_eq_false (by omega)]; rfl)
theorem setB_congr {p q : Nat → Bool} {n : Nat} (h : ∀ k, k < n → p k = q k) : setB n p = setB n q := by
  apply Nat.eq_of_testBit_eq
  intro i
  rw [setB_tb, setB_tb]
  by_cases hi : i < n
  · rw [h i hi]
  · simp [hi]
def WM (n : Nat) (N : Nat → Nat) (k a b : Nat) : Nat := setB n (wc n N k a b)
def pr (a b : Nat) : Nat := a * 10 + b
def cl (a b r : Nat) : Nat := (a * 10 + b) * 9 + r
theorem pr_lt {a b : Nat} (ha : a < 9) (hb : b ≤ 9) : pr a b < 90 := by unfold pr; omega
theorem cl_lt {a b r : Nat} (ha : a < 9) (hb : b ≤ 9) (hr : r < 9) : cl a b r < 810 := by unfold cl; omega
theorem pr_inj {a b a' b' : Nat} (hb : b ≤ 9) (hb' : b' ≤ 9) (h : pr a b = pr a' b') : a = a' ∧ b = b' := by unfold pr at h; omega
theorem cl_inj {a b r a' b' r' : Nat} (hb : b ≤ 9) (hb' : b' ≤ 9) (hr : r < 9) (hr' : r' < 9) (h : cl a b r = cl a' b' r') : a = a' ∧ b = b' ∧ r = r' := by unfold cl at h; omega
theorem I_pr (a b : Nat) : (I a * (10 : Int32)) + I b = I (pr a b) := by
  rw [show (10 : Int32) = I 10 from rfl, I_mul, I_add]; rfl
theorem I_cl (a b r : Nat) : ((((I a * (10 : Int32)) + I b) * (9 : Int32)) + I r) = I (cl a b r) := by
  rw [I_pr, show (9 : Int32) = I 9 from rfl, I_mul, I_add]; rfl
/-- numbers at a pair: bits r < n by a test -/
def HB (n : Nat) (x : Int32) (p : Nat → Bool) : Prop := ∃ v, v < 1024 ∧ x = I v ∧ ∀ r, r < n → v.testBit r = p r
theorem or_lt1024 {a b : Nat} (ha : a < 1024) (hb : b < 1024) : a ||| b < 1024 := Nat.or_lt_two_pow (n := 10) ha hb
theorem pow_lt1024 {a : Nat} (ha : a ≤ 9) : 2 ^ a < 1024 := show 2 ^ a < 2 ^ 10 from Nat.pow_lt_pow_right (by decide) (by omega)
end
