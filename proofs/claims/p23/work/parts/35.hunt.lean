/-! THE HUNT: numbers. -/
section
variable {n : Nat} {N : Nat → Nat}
def bh (n : Nat) (N : Nat → Nat) (s r : Nat) : Nat := nts n N (nd s (2 ^ r))
theorem bh_lt (G : GW n N) (s r : Nat) : bh n N s r < 2 ^ n := nts_lt G _
/-- k shots are enough -/
def hq (n : Nat) (N : Nat → Nat) : Nat → Nat → Bool
  | 0, s => decide (s = 0)
  | k + 1, s => decide (s = 0) || anyB n (fun r => hq n N k (bh n N s r))
theorem hq_succ_iff {k s : Nat} : hq n N (k + 1) s = true ↔ s = 0 ∨ ∃ r, r < n ∧ hq n N k (bh n N s r) = true := by
  show (decide (s = 0) || anyB n (fun r => hq n N k (bh n N s r))) = true ↔ _
  rw [Bool.or_eq_true, decide_eq_true_eq, anyB_iff]
theorem hq_zero : ∀ k, hq n N k 0 = true
  | 0 => rfl
  | k + 1 => hq_succ_iff.mpr (Or.inl rfl)
theorem hq_step : ∀ {k s : Nat}, hq n N k s = true → hq n N (k + 1) s = true
  | 0, s, h => hq_succ_iff.mpr (Or.inl (of_decide_eq_true h))
  | k + 1, s, h => by
    rcases hq_succ_iff.mp h with h1 | ⟨r, hr, h1⟩
    · exact hq_succ_iff.mpr (Or.inl h1)
    · exact hq_succ_iff.mpr (Or.inr ⟨r, hr, hq_step h1⟩)
theorem hq_le {k j s : Nat} (h : k ≤ j) (h1 : hq n N k s = true) : hq n N j s = true := by
  obtain ⟨i, rfl⟩ : ∃ i, j = k + i := ⟨j - k, by omega⟩
  clear h
  induction i with
  | zero => exact h1
  | succ i ih => exact hq_step ih
def Sb (s t : Nat) : Prop := ∀ i, s.testBit i = true → t.testBit i = true
theorem Sb_zero {s : Nat} (h : Sb s 0) : s = 0 := by
  apply Nat.eq_of_testBit_eq
  intro i
  cases hi : s.testBit i with
  | false => simp
  | true => have := h i hi; simp at this
theorem nts_sub {s t : Nat} (h : Sb s t) : Sb (nts n N s) (nts n N t) := by
  intro j hj
  rw [tb_nts, anyB_iff] at hj ⊢
  obtain ⟨k, hk, h1⟩ := hj
  rw [Bool.and_eq_true] at h1
  exact ⟨k, hk, by rw [Bool.and_eq_true]; exact ⟨h k h1.1, h1.2⟩⟩
theorem nd_sub {s t r : Nat} (hs : s < 512) (ht : t < 512) (h : Sb s t) : Sb (nd s r) (nd t r) := by
  intro i hi
  rw [tb_nd hs, Bool.and_eq_true] at hi
  rw [tb_nd ht, Bool.and_eq_true]
  exact ⟨h i hi.1, hi.2⟩
theorem hq_sub (G : GW n N) : ∀ {k s t : Nat}, s < 512 → t < 512 → Sb s t → hq n N k t = true → hq n N k s = true
  | 0, s, t, hs, ht, h, h1 => by
    have h2 : t = 0 := of_decide_eq_true h1
    subst h2
    exact decide_eq_true (Sb_zero h)
  | k + 1, s, t, hs, ht, h, h1 => by
    rcases hq_succ_iff.mp h1 with h2 | ⟨r, hr, h2⟩
    · subst h2
      exact hq_succ_iff.mpr (Or.inl (Sb_zero h))
    · exact hq_succ_iff.mpr (Or.inr ⟨r, hr, hq_sub G (nts_lt9 G _) (nts_lt9 G _) (nts_sub (nd_sub hs ht h)) h2⟩)
/-! growing families come to a stand -/
theorem sm_zero : ∀ m, sm (fun _ => 0) m = 0
  | 0 => rfl
  | m + 1 => by show sm (fun _ => 0) m + 0 = 0; rw [sm_zero m]
theorem sm_bool (p : Nat → Bool) : ∀ m, sm (fun t => (p t).toNat) m ≤ m
  | 0 => Nat.le_refl _
  | m + 1 => by
    have := sm_bool p m
    have h2 : (p m).toNat ≤ 1 := by cases p m <;> decide
    show sm (fun t => (p t).toNat) m + (p m).toNat ≤ m + 1
    omega
theorem stab {P : Nat → Nat → Bool} {m c0 : Nat} (hm : ∀ k t, t < m → P k t = true → P (k + 1) t = true) (hdet : ∀ k, (∀ t, t < m → P (k + 1) t = P k t) → ∀ t, t < m → P (k + 2) t = P (k + 1) t) (h0 : c0 ≤ sm (fun t => (P 0 t).toNat) m) : ∀ k t, t < m → P k t = true → P (m - c0) t = true := by
  have le : ∀ i j, i ≤ j → ∀ t, t < m → P i t = true → P j t = true := by
    intro i j hij t ht h
    obtain ⟨e, rfl⟩ : ∃ e, j = i + e := ⟨j - i, by omega⟩
    clear hij
    induction e with
    | zero => exact h
    | succ e ih => exact hm _ t ht ih
  have key : ∀ k, (∃ i, i ≤ k ∧ ∀ t, t < m → P (i + 1) t = P i t) ∨ c0 + (k + 1) ≤ sm (fun t => (P (k + 1) t).toNat) m := by
    have grow : ∀ k, ¬ (∀ t, t < m → P (k + 1) t = P k t) → sm (fun t => (P k t).toNat) m < sm (fun t => (P (k + 1) t).toNat) m := by
      intro k hk
      refine sm_lt (fun t ht => toNat_le (hm k t ht)) ?_
      obtain ⟨t, ht⟩ := Classical.not_forall.mp hk
      obtain ⟨ht1, ht2⟩ := Classical.not_imp.mp ht
      refine ⟨t, ht1, ?_⟩
      cases h1 : P k t with
      | true => rw [h1, hm k t ht1 h1] at ht2; exact absurd rfl ht2
      | false =>
        cases h2 : P (k + 1) t with
        | false => rw [h1, h2] at ht2; exact absurd rfl ht2
        | true => decide
    intro k
    induction k with
    | zero =>
      by_cases h : ∀ t, t < m → P (0 + 1) t = P 0 t
      · exact Or.inl ⟨0, Nat.le_refl _, h⟩
      · have := grow 0 h; right; omega
    | succ k ih =>
      rcases ih with ⟨i, hi, h⟩ | h1
      · exact Or.inl ⟨i, by omega, h⟩
      · by_cases h : ∀ t, t < m → P (k + 1 + 1) t = P (k + 1) t
        · exact Or.inl ⟨k + 1, Nat.le_refl _, h⟩
        · have := grow (k + 1) h; right; omega
  rcases key (m - c0) with ⟨i, hi, hst⟩ | h1
  · have fix : ∀ e, ∀ t, t < m → P (i + (e + 1)) t = P (i + e) t := by
      intro e
      induction e with
      | zero => exact hst
      | succ e ih => exact hdet (i + e) ih
    have all : ∀ e, ∀ t, t < m → P (i + e) t = P i t := by
      intro e
      induction e with
      | zero => intro t _; rfl
      | succ e ih => intro t ht; rw [fix e t ht, ih t ht]
    intro k t ht h
    by_cases hk : k ≤ m - c0
    · exact le k _ hk t ht h
    · have h2 := all (k - i) t ht
      rw [show i + (k - i) = k by omega] at h2
      rw [h2] at h
      exact le i _ hi t ht h
  · have := sm_bool (fun t => P (m - c0 + 1) t) m
    exact absurd h1 (by omega)
theorem anyB_congr {p q : Nat → Bool} (h : ∀ k, k < n → p k = q k) : anyB n p = anyB n q := by
  apply bool_eq
  rw [anyB_iff, anyB_iff]
  constructor
  · rintro ⟨k, hk, h1⟩; exact ⟨k, hk, by rw [← h k hk]; exact h1⟩
  · rintro ⟨k, hk, h1⟩; exact ⟨k, hk, by rw [h k hk]; exact h1⟩
theorem hq_bound (G : GW n N) {k t : Nat} (ht : t < 2 ^ n) (h : hq n N k t = true) : hq n N 511 t = true := by
  have h512 := two_pow_le G.n9
  have h1p := Nat.one_le_two_pow (n := n)
  have h1 := stab (P := hq n N) (m := 2 ^ n) (c0 := 1) (fun k t _ h => hq_step h) (fun k hk t _ => by
    show (decide (t = 0) || anyB n (fun r => hq n N (k + 1) (bh n N t r))) = (decide (t = 0) || anyB n (fun r => hq n N k (bh n N t r)))
    congr 1
    exact anyB_congr (fun r _ => hk _ (bh_lt G t r))) (by
      have h2 := sm_lt (f := fun _ => 0) (g := fun t => (hq n N 0 t).toNat) (n := 2 ^ n) (fun _ _ => Nat.zero_le _) ⟨0, by omega, (Nat.zero_lt_one : 0 < (hq n N 0 0).toNat)⟩
      rw [sm_zero] at h2
      exact h2) k t ht h
  exact hq_le (by omega) h1
/-! the first one -/
theorem ff_ge (p : Nat → Bool) : ∀ m j, j ≤ ff p m j
  | 0, j => Nat.le_refl _
  | m + 1, j => by
    unfold ff
    split
    · exact Nat.le_refl _
    · have := ff_ge p m (j + 1); omega
theorem ff_no (p : Nat → Bool) : ∀ m j i, j ≤ i → i < ff p m j → p i = false
  | 0, j, i, h1, h2 => by
    have : i < j := h2
    omega
  | m + 1, j, i, h1, h2 => by
    unfold ff at h2
    split at h2
    · omega
    · rename_i hp
      by_cases e : i = j
      · subst e; simpa using hp
      · exact ff_no p m (j + 1) i (by omega) h2
theorem ff_yes (p : Nat → Bool) : ∀ m j, ff p m j < j + m → p (ff p m j) = true
  | 0, j, h => by
    have : j < j + 0 := h
    omega
  | m + 1, j, h => by
    unfold ff at h ⊢
    split
    · rename_i hp; exact hp
    · rename_i hp
      rw [if_neg hp] at h
      exact ff_yes p m (j + 1) (by omega)
theorem ff_eq (p : Nat → Bool) {m j i : Nat} (h1 : j ≤ i) (h2 : i < j + m) (h3 : p i = true) (h4 : ∀ k, j ≤ k → k < i → p k = false) : ff p m j = i := by
  rcases Nat.lt_trichotomy (ff p m j) i with h | h | h
  · have := ff_yes p m j (by omega)
    rw [h4 _ (ff_ge p m j) h] at this; cases this
  · exact h
  · rw [ff_no p m j i h1 h] at h3; cases h3
/-- the hunt; 512: none -/
def Hn (n : Nat) (N : Nat → Nat) (s : Nat) : Nat := ff (fun k => hq n N k s) 512 0
theorem Hn_le (s : Nat) : Hn n N s ≤ 512 := ff_le _ 512 0
theorem Hn_yes {s : Nat} (h : Hn n N s < 512) : hq n N (Hn n N s) s = true := ff_yes (fun k => hq n N k s) 512 0 (by show Hn n N s < 0 + 512; omega)
theorem Hn_no {s k : Nat} (h : k < Hn n N s) : hq n N k s = false := ff_no (fun k => hq n N k s) 512 0 k (Nat.zero_le _) h
theorem Hn_eq {s k : Nat} (hk : k < 512) (h1 : hq n N k s = true) (h2 : ∀ i, i < k → hq n N i s = false) : Hn n N s = k := ff_eq (fun k => hq n N k s) (Nat.zero_le _) (by omega) h1 (fun i _ hi => h2 i hi)
theorem Hn_le_of {s k : Nat} (h : hq n N k s = true) : Hn n N s ≤ k := by
  rcases Nat.lt_or_ge k (Hn n N s) with h1 | h1
  · rw [Hn_no h1] at h; cases h
  · exact h1
theorem Hn_none (G : GW n N) {s : Nat} (hs : s < 2 ^ n) (h : Hn n N s = 512) (k : Nat) : hq n N k s = false := by
  cases h1 : hq n N k s with
  | false => rfl
  | true =>
    have := Hn_le_of (hq_bound G hs h1)
    omega
theorem Hn_zero : Hn n N 0 = 0 := Hn_eq (by decide) rfl (fun i hi => by omega)
theorem Hn_pos {s : Nat} (h : s ≠ 0) : 1 ≤ Hn n N s := by
  rcases Nat.eq_zero_or_pos (Hn n N s) with h1 | h1
  · have h2 := Hn_yes (n := n) (N := N) (s := s) (by omega)
    rw [h1] at h2
    exact absurd (of_decide_eq_true h2) h
  · exact h1
/-- the class's way back -/
def bk (n : Nat) (N : Nat → Nat) (m t : Nat) : Prop := ∃ rest, rest < 2 ^ n ∧ ∃ k, k < n ∧ Hn n N (nts n N rest) = m ∧ t = rest ||| 2 ^ k
theorem lt_two_of_bit {n r s : Nat} (hr : r < n) (hs : s < 2 ^ n) : s ||| 2 ^ r < 2 ^ n := Nat.or_lt_two_pow hs (Nat.pow_lt_pow_right (by decide) hr)
theorem nd_or {s r : Nat} (hs : s < 512) (h : s.testBit r = true) : s = nd s (2 ^ r) ||| 2 ^ r := by
  apply Nat.eq_of_testBit_eq
  intro i
  rw [Nat.testBit_or, tb_nd hs, Nat.testBit_two_pow]
  by_cases hi : r = i
  · subst hi; simp [h]
  · simp [hi]
theorem or_nd {s r : Nat} (hs : s < 512) (hr : r < 9) (h : s.testBit r = false) : nd (s ||| 2 ^ r) (2 ^ r) = s := by
  apply Nat.eq_of_testBit_eq
  intro i
  have hp : s ||| 2 ^ r < 512 := Nat.or_lt_two_pow (n := 9) hs (Nat.pow_lt_pow_right (by decide) hr)
  rw [tb_nd hp, Nat.testBit_or, Nat.testBit_two_pow]
  by_cases hi : r = i
  · subst hi; simp [h]
  · simp [hi]
theorem nd_off {s r : Nat} (hs : s < 512) (h : s.testBit r = false) : nd s (2 ^ r) = s := by
  apply Nat.eq_of_testBit_eq
  intro i
  rw [tb_nd hs, Nat.testBit_two_pow]
  by_cases hi : r = i
  · subst hi; simp [h]
  · simp [hi]
theorem nd_Sb {s r : Nat} (hs : s < 512) : Sb (nd s r) s := fun i hi => by
  rw [tb_nd hs, Bool.and_eq_true] at hi; exact hi.1
theorem bit_of_ne {s : Nat} (h : s ≠ 0) : ∃ r, s.testBit r = true := Nat.exists_testBit_of_ne_zero h
/-- an inside shot does as well -/
theorem hq_inside (G : GW n N) {k s : Nat} (hs : s < 2 ^ n) (h0 : s ≠ 0) (h : hq n N (k + 1) s = true) : ∃ r, r < n ∧ s.testBit r = true ∧ hq n N k (bh n N s r) = true := by
  have h512 := Nat.lt_of_lt_of_le hs (two_pow_le G.n9)
  rcases hq_succ_iff.mp h with h1 | ⟨r, hr, h1⟩
  · exact absurd h1 h0
  · cases hb : s.testBit r with
    | true => exact ⟨r, hr, hb, h1⟩
    | false =>
      obtain ⟨r2, hr2⟩ := bit_of_ne h0
      refine ⟨r2, lt_pow_bits hs hr2, hr2, ?_⟩
      refine hq_sub G (nts_lt9 G _) (nts_lt9 G _) (nts_sub ?_) h1
      rw [nd_off h512 hb]
      exact nd_Sb h512
theorem bk_iff (G : GW n N) {m t : Nat} (ht : t < 2 ^ n) (hm : m < 512) (hno : hq n N m t = false) : hq n N (m + 1) t = true ↔ bk n N m t := by
  have h512 := Nat.lt_of_lt_of_le ht (two_pow_le G.n9)
  have h9 := G.n9
  constructor
  · intro h
    have h0 : t ≠ 0 := fun z => by rw [z, hq_zero] at hno; cases hno
    obtain ⟨r, hr, hb, h1⟩ := hq_inside G ht h0 h
    refine ⟨nd t (2 ^ r), nd_lt2 ht, r, hr, ?_, nd_or h512 hb⟩
    refine Hn_eq (by omega) h1 (fun i hi => ?_)
    cases h2 : hq n N i (nts n N (nd t (2 ^ r))) with
    | false => rfl
    | true =>
      have h3 : hq n N (i + 1) t = true := hq_succ_iff.mpr (Or.inr ⟨r, hr, h2⟩)
      rw [hq_le (by omega) h3] at hno; cases hno
  · rintro ⟨rest, hrest, k, hk, hH, rfl⟩
    have hr512 := Nat.lt_of_lt_of_le hrest (two_pow_le G.n9)
    have h1 := Hn_yes (n := n) (N := N) (s := nts n N rest) (by omega)
    rw [hH] at h1
    refine hq_succ_iff.mpr (Or.inr ⟨k, hk, ?_⟩)
    cases hb : rest.testBit k with
    | false =>
      unfold bh
      rw [or_nd hr512 (by omega) hb]
      exact h1
    | true =>
      have e : rest ||| 2 ^ k = rest := by
        apply Nat.eq_of_testBit_eq
        intro i
        rw [Nat.testBit_or, Nat.testBit_two_pow]
        by_cases hi : k = i
        · subst hi; simp [hb]
        · simp [hi]
      rw [e]
      exact hq_sub G (nts_lt9 G _) (nts_lt9 G _) (nts_sub (nd_Sb hr512)) h1
/-- no set with just m + 1, none with more -/
theorem Hn_gap (G : GW n N) {m : Nat} (hno : ∀ t, t < 2 ^ n → Hn n N t ≠ m + 1) : ∀ j t, t < 2 ^ n → hq n N j t = true → hq n N m t = true := by
  intro j
  induction j with
  | zero => intro t _ h; exact hq_le (Nat.zero_le _) h
  | succ j ih =>
    intro t ht h
    rcases hq_succ_iff.mp h with h1 | ⟨r, hr, h1⟩
    · subst h1; exact hq_zero m
    · have h2 := ih _ (bh_lt G t r) h1
      have h3 : hq n N (m + 1) t = true := hq_succ_iff.mpr (Or.inr ⟨r, hr, h2⟩)
      have h4 := Hn_le_of h3
      have h5 := hno t ht
      by_cases h6 : Hn n N t < 512
      · exact hq_le (by omega) (Hn_yes h6)
      · have h7 := Hn_le (n := n) (N := N) t
        have h8 := Hn_none G ht (by omega) (m + 1)
        rw [h3] at h8; cases h8
end
