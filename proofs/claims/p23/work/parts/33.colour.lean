/-! COLOURS. -/
section
/-! sums -/
def sm (f : Nat → Nat) (n : Nat) : Nat := fl (fun k a => a + f k) n 0
theorem sm_le {f g : Nat → Nat} : ∀ {n : Nat}, (∀ k, k < n → f k ≤ g k) → sm f n ≤ sm g n
  | 0, _ => Nat.le_refl _
  | n + 1, h => by
    have h1 := sm_le (n := n) (fun k hk => h k (by omega))
    have h2 := h n (by omega)
    show sm f n + f n ≤ sm g n + g n
    omega
theorem sm_lt {f g : Nat → Nat} : ∀ {n : Nat}, (∀ k, k < n → f k ≤ g k) → (∃ k, k < n ∧ f k < g k) → sm f n < sm g n
  | 0, _, ⟨k, hk, _⟩ => by omega
  | n + 1, h, ⟨k, hk, hlt⟩ => by
    have h1 := sm_le (n := n) (fun k hk => h k (by omega))
    have h2 := h n (by omega)
    show sm f n + f n < sm g n + g n
    by_cases e : k = n
    · subst e; omega
    · have h3 := sm_lt (n := n) (fun k hk => h k (by omega)) ⟨k, by omega, hlt⟩
      omega
theorem pc_sm (s : Nat) : pc s = sm (fun k => (s.testBit k).toNat) 9 := by
  unfold pc sm
  congr 1
  funext k a
  show a + s / 2 ^ k % 2 = a + (s.testBit k).toNat
  rw [Nat.toNat_testBit]
theorem toNat_le {a b : Bool} (h : a = true → b = true) : a.toNat ≤ b.toNat := by
  cases a with
  | false => exact Nat.zero_le _
  | true => rw [h rfl]; exact Nat.le_refl _
theorem pc_mono {a b : Nat} (h : ∀ i, a.testBit i = true → b.testBit i = true) : pc a ≤ pc b := by
  rw [pc_sm, pc_sm]
  exact sm_le (fun k _ => toNat_le (h k))
theorem pc_lt {a b : Nat} (hb : b < 512) (h : ∀ i, a.testBit i = true → b.testBit i = true) (hne : a ≠ b) : pc a < pc b := by
  rw [pc_sm, pc_sm]
  refine sm_lt (fun k _ => toNat_le (h k)) ?_
  obtain ⟨i, hi⟩ := Nat.exists_testBit_ne_of_ne hne
  have hai : a.testBit i = false := by
    cases h1 : a.testBit i with
    | false => rfl
    | true => rw [h1, h i h1] at hi; exact absurd rfl hi
  have hbi : b.testBit i = true := by
    cases h1 : b.testBit i with
    | true => rfl
    | false => rw [hai, h1] at hi; exact absurd rfl hi
  exact ⟨i, tb_lo hb hbi, by rw [hai, hbi]; decide⟩
theorem lt_pow_bits {a n : Nat} (h : a < 2 ^ n) {i : Nat} (hi : a.testBit i = true) : i < n := by
  rcases Nat.lt_or_ge i n with h1 | h1
  · exact h1
  · rw [Nat.testBit_lt_two_pow (Nat.lt_of_lt_of_le h (Nat.pow_le_pow_right (by decide) h1))] at hi; cases hi
theorem sub_all {a n : Nat} (h : a < 2 ^ n) (i : Nat) (hi : a.testBit i = true) : (2 ^ n - 1).testBit i = true := by
  rw [Nat.testBit_two_pow_sub_one]
  exact decide_eq_true (lt_pow_bits h hi)
theorem fl_or (p : Nat → Bool) (g : Nat → Nat) (b c : Nat) : ∀ n, fl (fun k a => if p k = true then a ||| g k else a) n (b ||| c) = b ||| fl (fun k a => if p k = true then a ||| g k else a) n c
  | 0 => rfl
  | n + 1 => by
    have ih := fl_or p g b c n
    show (if p n = true then fl _ n (b ||| c) ||| g n else fl _ n (b ||| c)) = b ||| (if p n = true then fl _ n c ||| g n else fl _ n c)
    rw [ih]
    split
    · rw [Nat.or_assoc]
    · rfl
variable {E : Nat × (Nat → Int32)} {w : Wd} {d n : Nat} {N : Nat → Nat}
/-- a round -/
def rdp (N : Nat → Nat) (b k : Nat) : Bool := b.testBit k && decide (pc (nd (N k) b) = 1)
def rd (n : Nat) (N : Nat → Nat) (b : Nat) : Nat := fl (fun k a => if rdp N b k = true then a ||| nd (N k) b else a) n b
theorem nd_lt2 {a b n : Nat} (h : a < 2 ^ n) : nd a b < 2 ^ n := Nat.lt_of_le_of_lt Nat.and_le_left h
theorem rd_lt (G : GW n N) {b : Nat} (hb : b < 2 ^ n) : rd n N b < 2 ^ n :=
  fl_inv (P := fun a => a < 2 ^ n) hb (fun k a _ ha => by
    split
    · exact Nat.or_lt_two_pow ha (nd_lt2 (G.2.2.1 k))
    · exact ha)
theorem rd_sup (b i : Nat) (h : b.testBit i = true) : (rd n N b).testBit i = true :=
  fl_inv (P := fun a : Nat => a.testBit i = true) h (fun k a _ ha => by
    split
    · rw [Nat.testBit_or, ha]; rfl
    · exact ha)
/-- rounds on and on -/
def rit (n : Nat) (N : Nat → Nat) (j b : Nat) : Nat := fl (fun _ a => rd n N a) j b
theorem rit_succ (j b : Nat) : rit n N (j + 1) b = rd n N (rit n N j b) := rfl
theorem rit_lt (G : GW n N) {b : Nat} (hb : b < 2 ^ n) (j : Nat) : rit n N j b < 2 ^ n := fl_inv (P := fun a => a < 2 ^ n) hb (fun _ _ _ ha => rd_lt G ha)
def lst (n : Nat) (N : Nat → Nat) (b : Nat) : Nat := rit n N 9 b
theorem rit_fix {b i : Nat} (h : rd n N (rit n N i b) = rit n N i b) : ∀ k, rit n N (i + k) b = rit n N i b
  | 0 => rfl
  | k + 1 => by
    have ih := rit_fix h k
    show rd n N (rit n N (i + k) b) = _
    rw [ih, h]
theorem rit_ex (G : GW n N) {b : Nat} (hb : b < 2 ^ n) : ∃ i, i ≤ 9 ∧ rd n N (rit n N i b) = rit n N i b := by
  have key : ∀ j, (∃ i, i ≤ j ∧ rd n N (rit n N i b) = rit n N i b) ∨ j + 1 ≤ pc (rit n N (j + 1) b) := by
    intro j
    have step : ∀ j, rd n N (rit n N j b) ≠ rit n N j b → pc (rit n N j b) < pc (rit n N (j + 1) b) := fun j hj =>
      pc_lt (Nat.lt_of_lt_of_le (rit_lt G hb (j + 1)) (two_pow_le G.n9)) (fun i hi => rd_sup _ i hi) (fun z => hj z.symm)
    induction j with
    | zero =>
      by_cases h : rd n N (rit n N 0 b) = rit n N 0 b
      · exact Or.inl ⟨0, Nat.le_refl _, h⟩
      · have := step 0 h; exact Or.inr (by omega)
    | succ j ih =>
      rcases ih with ⟨i, hi, h⟩ | h1
      · exact Or.inl ⟨i, by omega, h⟩
      · by_cases h : rd n N (rit n N (j + 1) b) = rit n N (j + 1) b
        · exact Or.inl ⟨j + 1, Nat.le_refl _, h⟩
        · have := step (j + 1) h; exact Or.inr (by omega)
  rcases key 9 with h | h
  · exact h
  · have := pc_le (rit n N (9 + 1) b); omega
theorem lst_eq {b i : Nat} (hi : i ≤ 9) (h : rd n N (rit n N i b) = rit n N i b) : lst n N b = rit n N i b := by
  have := rit_fix h (9 - i)
  rw [show i + (9 - i) = 9 by omega] at this
  exact this
theorem lst_fix (G : GW n N) {b : Nat} (hb : b < 2 ^ n) : rd n N (rit n N 9 b) = rit n N 9 b := by
  obtain ⟨i, hi, h⟩ := rit_ex G hb
  have := lst_eq hi h
  unfold lst at this
  rw [this, h]
theorem lst_lt (G : GW n N) {b : Nat} (hb : b < 2 ^ n) : lst n N b < 2 ^ n := rit_lt G hb 9
/-- the first j from here on, at most m on -/
def ff (p : Nat → Bool) : Nat → Nat → Nat
  | 0, j => j
  | m + 1, j => if p j = true then j else ff p m (j + 1)
def rnds (n : Nat) (N : Nat → Nat) (b : Nat) : Nat := ff (fun j => decide (rd n N (rit n N j b) = rit n N j b)) 9 0
theorem ff_le (p : Nat → Bool) : ∀ m j, ff p m j ≤ j + m
  | 0, j => Nat.le_refl _
  | m + 1, j => by
    unfold ff
    split
    · omega
    · have := ff_le p m (j + 1); omega
/-! the class -/
theorem sp28 {b : Nat} (hd : 2 ≤ d) (hR : GR w n N) (G : GW n N) (hb : b < 512) : Ev d 28 (ent0 28 [.ref 2, .int (I b)] (hp E w)) (.inl (some (.int (I (rd n N b)))), hp E w) := by
  have hn := G.n9
  have e0 : rd n N b = b ||| fl (fun k a => if rdp N b k = true then a ||| nd (N k) b else a) n 0 := by
    rw [← fl_or, Nat.or_zero]; rfl
  have key := down (n := n) (Q := fun j => ∀ u, Ev d 28 (4, [.ref 2, .int (I b), .int (I (fl (fun k a => if rdp N b k = true then a ||| nd (N k) b else a) j 0)), .int (I j), u], [], hp E w) (.inl (some (.int (I (rd n N b)))), hp E w)) (fun j hj e u => ?_) (fun u => ?_) 0 (Nat.zero_le _)
  · exact p28_e_a (key _)
  · have e' := e (.int (I (nd (N j) b)))
    have hz : (rv 9 (gA w 0) j) &&& (I b ^^^ (-1 : Int32)) = I (nd (N j) b) := by rw [hR.2, I_nd _ (G.lt j)]
    rw [← hz] at e'
    by_cases hbit : b.testBit j = true
    · by_cases hp1 : pc (nd (N j) b) = 1
      · have hr : rdp N b j = true := by simp [rdp, hbit, hp1]
        have e2 : fl (fun k a => if rdp N b k = true then a ||| nd (N k) b else a) (j + 1) 0 = fl (fun k a => if rdp N b k = true then a ||| nd (N k) b else a) j 0 ||| nd (N j) b := by
          show (if rdp N b j = true then _ else _) = _
          rw [if_pos hr]
        rw [e2] at e'
        refine p28_4_a hd (lt_n hR.1 hn hj) rfl (by omega) (bit0T (tb_big hb) (by omega) hbit) hz (sp79 (nd_lt (G.lt j))) (by rw [hp1]; rfl) ?_ (I_add _ _) e'
        rw [hz, I_or]
      · have hr : ¬ rdp N b j = true := by simp [rdp, hp1]
        have e2 : fl (fun k a => if rdp N b k = true then a ||| nd (N k) b else a) (j + 1) 0 = fl (fun k a => if rdp N b k = true then a ||| nd (N k) b else a) j 0 := by
          show (if rdp N b j = true then _ else _) = _
          rw [if_neg hr]
        rw [e2] at e'
        have hpl := pc_le (nd (N j) b)
        exact p28_4_b hd (lt_n hR.1 hn hj) rfl (by omega) (bit0T (tb_big hb) (by omega) hbit) hz (sp79 (nd_lt (G.lt j))) (fun z => hp1 ((I_inj (by omega) (by omega)).mp (show I (pc (nd (N j) b)) = I 1 from z))) (I_add _ _) e'
    · have hr : ¬ rdp N b j = true := by simp [rdp, hbit]
      have e2 : fl (fun k a => if rdp N b k = true then a ||| nd (N k) b else a) (j + 1) 0 = fl (fun k a => if rdp N b k = true then a ||| nd (N k) b else a) j 0 := by
        show (if rdp N b j = true then _ else _) = _
        rw [if_neg hr]
      rw [e2] at e'
      exact p28_4_c hd (lt_n hR.1 hn hj) rfl (by omega) (bit0F (tb_big hb) (by omega) (by simpa using hbit)) (I_add _ _) e'
  · exact p28_4_d (by omega) (nlt_n hR.1 hn (Nat.le_refl _) (by omega)) (by rw [I_or, ← e0])
theorem sp27 {b : Nat} (hd : 3 ≤ d) (hR : GR w n N) (G : GW n N) (hb : b < 2 ^ n) : Ev d 27 (ent0 27 [.ref 2, .int (I b)] (hp E w)) (.inl (some (.int (I (lst n N b)))), hp E w) := by
  have key := down (n := 9) (Q := fun j => ∀ u, Ev d 27 (4, [.ref 2, .int (I b), .int (I (rit n N j b)), .int (I j), u], [], hp E w) (.inl (some (.int (I (lst n N b)))), hp E w)) (fun j hj e u => ?_) (fun u => ?_) 0 (by decide)
  · exact p27_e_a (key _)
  · have hl := Nat.lt_of_lt_of_le (rit_lt G hb j) (two_pow_le G.n9)
    have hl2 := Nat.lt_of_lt_of_le (rd_lt G (rit_lt G hb j)) (two_pow_le G.n9)
    by_cases h : rd n N (rit n N j b) = rit n N j b
    · rw [lst_eq (by omega) h]
      exact p27_4_a (by omega) ((I_lt (by omega) (by decide)).mpr hj) (sp28 (by omega) hR G hl) (by rw [h])
    · exact p27_4_b (by omega) ((I_lt (by omega) (by decide)).mpr hj) (sp28 (by omega) hR G hl) (fun z => h ((I_inj (by omega) (by omega)).mp z)) (I_add _ _) (e _)
  · exact p27_4_c (fun z => Nat.lt_irrefl 9 ((I_lt (by decide) (by decide)).mp z))
/-- is it a set of rooms -/
def isS (n : Nat) (x : Int32) : Bool := !decide (x < 0) && !decide (I (2 ^ n - 1) < x)
theorem isS_ex {x : Int32} (h : isS n x = true) (hn : n ≤ 9) : ∃ b, b < 2 ^ n ∧ x = I b := by
  have h512 := two_pow_le hn
  have h1p := Nat.one_le_two_pow (n := n)
  unfold isS at h
  simp only [Bool.and_eq_true, Bool.not_eq_true', decide_eq_false_iff_not] at h
  obtain ⟨h1, h2⟩ := h
  have h3 : 0 ≤ x.toInt := by
    have := Int32.not_lt.mp h1
    rw [Int32.le_iff_toInt_le] at this
    exact this
  have h5 := Int32.toInt_lt x
  have h4 : x = I x.toInt.toNat := by
    apply Int32.toInt_inj.mp
    rw [I_toInt (by omega)]
    omega
  refine ⟨x.toInt.toNat, ?_, h4⟩
  rw [h4, I_lt (by omega) (by omega)] at h2
  omega
theorem sp76T {x : Int32} (hd : 1 ≤ d) (hR : GR w n N) (G : GW n N) (h : isS n x = true) : Ev d 76 (ent0 76 [.ref 1, .int x] (hp E w)) (.inl none, hp E w) := by
  unfold isS at h
  simp only [Bool.and_eq_true, Bool.not_eq_true', decide_eq_false_iff_not] at h
  exact p76_e_b hd h.1 (sp42 hR G) h.2
/-- the least set: class -/
def lb (n : Nat) (N : Nat → Nat) : Nat → Nat := fun k => fl (fun b a => if (decide (pc b < pc a) && decide (lst n N b = 2 ^ n - 1)) = true then b else a) k (2 ^ n - 1)
theorem lb_lt (n : Nat) (N : Nat → Nat) {k : Nat} (hk : k ≤ 2 ^ n) : lb n N k < 2 ^ n := by
  have h1p := Nat.one_le_two_pow (n := n)
  refine fl_inv (P := fun a => a < 2 ^ n) (by omega) (fun k2 a hk2 ha => ?_)
  split
  · omega
  · exact ha
theorem sF_sF (j : Nat) (f g : Int32) (w : Wd) : sF j f (sF j g w) = sF j f w := by
  unfold sF
  congr 2
  funext i
  show (bif Nat.beq i j then f else (bif Nat.beq i j then g else w.2.1 i)) = (bif Nat.beq i j then f else w.2.1 i)
  cases Nat.beq i j <;> rfl
theorem sp25n (hd : 4 ≤ d) (hR : GR w n N) (G : GW n N) (hv : ¬ gF w 7 = gF w 2) : Ev d 25 (ent0 25 [.ref 26, .ref 2] (hp E w)) (.inl none, hp E (sF 7 (gF w 2) (sF 6 (I (lb n N (2 ^ n))) w))) := by
  have h512 := two_pow_le G.n9
  have h1p := Nat.one_le_two_pow (n := n)
  have key := down (n := 2 ^ n) (Q := fun j => ∀ u, Ev d 25 (22, [.ref 26, .ref 2, .int (I j), u], [], hp E (sF 6 (I (lb n N j)) w)) (.inl none, hp E (sF 7 (gF w 2) (sF 6 (I (lb n N (2 ^ n))) w)))) (fun j hj e u => ?_) (fun u => ?_) 0 (Nat.zero_le _)
  · exact p25_e_b (by omega) hv (sp42 hR G) rfl (key _)
  · have hR' : GR (sF 6 (I (lb n N j)) w) n N := hR
    have hlb := lb_lt n N (k := j) (by omega)
    have hll := lst_lt G hj
    have hp1 := pc_le j
    have hp2 := pc_le (lb n N j)
    have hlast : ¬ I (2 ^ n - 1) < I j := by rw [I_lt (by omega) (by omega)]; omega
    by_cases h1 : pc j < pc (lb n N j)
    · by_cases h2 : lst n N j = 2 ^ n - 1
      · have e2 : lb n N (j + 1) = j := by
          show (if (decide (pc j < pc (lb n N j)) && decide (lst n N j = 2 ^ n - 1)) = true then j else lb n N j) = j
          rw [if_pos (by simp [h1, h2])]
        rw [e2] at e
        refine p25_22_a (by omega) (sp42 hR' G) hlast (sp79 (by omega)) rfl (sp79 (s := lb n N j) (by omega)) ((I_lt (by omega) (by omega)).mpr h1) (sp27 (by omega) hR' G hj) (sp42 hR' G) (by rw [h2]) (I_add j 1) ?_ (e _)
        rw [sF_sF]
      · have e2 : lb n N (j + 1) = lb n N j := by
          show (if (decide (pc j < pc (lb n N j)) && decide (lst n N j = 2 ^ n - 1)) = true then j else lb n N j) = lb n N j
          rw [if_neg (by simp [h2])]
        rw [e2] at e
        exact p25_22_b (by omega) (sp42 hR' G) hlast (sp79 (by omega)) rfl (sp79 (s := lb n N j) (by omega)) ((I_lt (by omega) (by omega)).mpr h1) (sp27 (by omega) hR' G hj) (sp42 hR' G) (fun z => h2 ((I_inj (by omega) (by omega)).mp z)) (I_add j 1) (e _)
    · have e2 : lb n N (j + 1) = lb n N j := by
        show (if (decide (pc j < pc (lb n N j)) && decide (lst n N j = 2 ^ n - 1)) = true then j else lb n N j) = lb n N j
        rw [if_neg (by simp [h1])]
      rw [e2] at e
      exact p25_22_c (by omega) (sp42 hR' G) hlast (sp79 (by omega)) rfl (sp79 (s := lb n N j) (by omega)) (by rw [I_lt (by omega) (by omega)]; exact h1) (I_add j 1) (e _)
  · exact p25_22_d (by omega) (sp42 (show GR (sF 6 (I (lb n N (2 ^ n))) w) n N from hR) G) (by rw [I_lt (by omega) (by omega)]; omega) rfl
end
