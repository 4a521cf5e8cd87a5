/-! THE OPERATION family. -/
section
variable {E : Nat × (Nat → Int32)} {w : Wd} {d n s v x : Nat} {N M : Nat → Nat} {D : DL}
def fdB (x n lo hi : Nat) : Bool := if x = 0 then decide (hi = lo + 1) else if x = 1 then decide (hi = lo + 1) || (decide (lo = 0) && decide (hi = n - 1)) else if x = 2 then decide (lo = 0) else true
def rwN (x n lo k : Nat) (M : Nat → Nat) : Nat → Nat := fl (fun j M => if (decide (lo < j) && fdB x n lo j) = true then tog M lo j else M) k M
def fmN (x n k : Nat) : Nat → Nat := fl (fun lo M => rwN x n lo n M) k (fun _ => 0)
theorem rwN_succ (x n lo k : Nat) (M : Nat → Nat) : rwN x n lo (k + 1) M = if (decide (lo < k) && fdB x n lo k) = true then tog (rwN x n lo k M) lo k else rwN x n lo k M := rfl
theorem fmN_succ (x n k : Nat) : fmN x n (k + 1) = rwN x n k n (fmN x n k) := rfl
theorem rwN_low (lo : Nat) (M : Nat → Nat) : ∀ k, k ≤ lo + 1 → rwN x n lo k M = M
  | 0, _ => rfl
  | k + 1, h => by
    rw [rwN_succ, decide_eq_false (show ¬ lo < k by omega), Bool.false_and, if_neg (by decide)]
    exact rwN_low lo M k (by omega)
theorem GW_rw {lo : Nat} (G : GW n M) (hl : lo < n) : ∀ k, k ≤ n → GW n (rwN x n lo k M)
  | 0, _ => G
  | k + 1, h => by
    have ih := GW_rw G hl k (by omega)
    rw [rwN_succ]
    by_cases h1 : lo < k
    · cases h2 : fdB x n lo k with
      | false => rw [Bool.and_false, if_neg (by decide)]; exact ih
      | true =>
        rw [decide_eq_true h1, Bool.true_and, if_pos rfl]
        exact GW_tog ih (by omega) hl (by omega)
    · rw [decide_eq_false h1, Bool.false_and, if_neg (by decide)]; exact ih
theorem GW_fm (h1 : 1 ≤ n) (h9 : n ≤ 9) : ∀ k, k ≤ n → GW n (fmN x n k)
  | 0, _ => GW_zero h1 h9
  | k + 1, h => by rw [fmN_succ]; exact GW_rw (GW_fm h1 h9 k (by omega)) (by omega) n (Nat.le_refl _)
/-- no doors from here on -/
def Abs (M : Nat → Nat) (lo hi : Nat) : Prop := ∀ i j, i < j → (lo < i ∨ (lo = i ∧ hi ≤ j)) → (M i).testBit j = false
theorem abs_tog {lo hi : Nat} (hl : lo < hi) (h : Abs M lo hi) : Abs (tog M lo hi) lo (hi + 1) := by
  intro i j hij hc
  have h0 := h i j hij (by omega)
  unfold tog
  by_cases h1 : i = hi
  · subst h1
    rw [if_pos rfl, Nat.testBit_xor, Nat.testBit_two_pow, h0, decide_eq_false (by omega)]
    rfl
  · rw [if_neg h1]
    by_cases h2 : i = lo
    · subst h2
      rw [if_pos rfl, Nat.testBit_xor, Nat.testBit_two_pow, h0, decide_eq_false (by omega)]
      rfl
    · rw [if_neg h2]; exact h0
theorem abs_rw {lo : Nat} (h : Abs M lo 0) : ∀ k, Abs (rwN x n lo k M) lo k
  | 0 => h
  | k + 1 => by
    have ih := abs_rw h k
    rw [rwN_succ]
    have mono : Abs (rwN x n lo k M) lo (k + 1) := fun i j hij hc => ih i j hij (by omega)
    by_cases h1 : lo < k
    · cases h2 : fdB x n lo k with
      | false => rw [Bool.and_false, if_neg (by decide)]; exact mono
      | true =>
        rw [decide_eq_true h1, Bool.true_and, if_pos rfl]
        exact abs_tog h1 ih
    · rw [decide_eq_false h1, Bool.false_and, if_neg (by decide)]; exact mono
theorem abs_fm : ∀ k, Abs (fmN x n k) k 0
  | 0 => fun i j _ _ => Nat.zero_testBit j
  | k + 1 => by
    rw [fmN_succ]
    have := abs_rw (x := x) (n := n) (abs_fm k) n
    exact fun i j hij hc => this i j hij (by omega)
theorem sp41 {lo hi : Nat} (h : gF w 1 = I n) (h1 : 1 ≤ n) (hn : n ≤ 9) (hx : x ≤ 3) (hl : lo < n) (hh : hi < n) : Ev d 41 (ent0 41 [.ref 2, .int (I x), .int (I lo), .int (I hi)] (hp E w)) (.inl (some (.int (bI (fdB x n lo hi)))), hp E w) := by
  have e1 : I hi = I lo + (1 : Int32) ↔ hi = lo + 1 := by rw [show I lo + (1 : Int32) = I (lo + 1) from I_add lo 1, I_inj (by omega) (by omega)]
  have e2 : I lo = (0 : Int32) ↔ lo = 0 := I_inj (b := 0) (by omega) (by omega)
  have e3 : I hi = gF w 1 - (1 : Int32) ↔ hi = n - 1 := by rw [h, show I n - (1 : Int32) = I (n - 1) from I_sub h1, I_inj (by omega) (by omega)]
  have hx' : x = 0 ∨ x = 1 ∨ x = 2 ∨ x = 3 := by omega
  unfold fdB
  rcases hx' with rfl | rfl | rfl | rfl
  · rw [if_pos rfl]
    by_cases c : hi = lo + 1
    · rw [decide_eq_true c]; exact p41_e_h rfl (e1.mpr c)
    · rw [decide_eq_false c]; exact p41_e_i rfl (fun z => c (e1.mp z))
  · rw [if_neg (by decide), if_pos rfl]
    by_cases c : hi = lo + 1
    · rw [decide_eq_true c, Bool.true_or]; exact p41_e_g rfl (e1.mpr c)
    · rw [decide_eq_false c, Bool.false_or]
      by_cases c2 : lo = 0
      · rw [decide_eq_true c2, Bool.true_and]
        by_cases c3 : hi = n - 1
        · rw [decide_eq_true c3]; exact p41_e_d rfl (fun z => c (e1.mp z)) (e2.mpr c2) (e3.mpr c3)
        · rw [decide_eq_false c3]; exact p41_e_e rfl (fun z => c (e1.mp z)) (e2.mpr c2) (fun z => c3 (e3.mp z))
      · rw [decide_eq_false c2, Bool.false_and]; exact p41_e_f rfl (fun z => c (e1.mp z)) (fun z => c2 (e2.mp z))
  · rw [if_neg (by decide), if_neg (by decide), if_pos rfl]
    by_cases c2 : lo = 0
    · rw [decide_eq_true c2]; exact p41_e_b rfl (e2.mpr c2)
    · rw [decide_eq_false c2]; exact p41_e_c rfl (fun z => c2 (e2.mp z))
  · rw [if_neg (by decide), if_neg (by decide), if_neg (by decide)]
    exact p41_e_a (by decide)
/-- the class's world while doors are put -/
def fw (f : Nat → Int32) (c : Int32) (w : Wd) : Wd := sF 2 c (sA 0 f w)
theorem td_fw {f : Nat → Int32} {c : Nat} {a b : Nat} : td a b (fw f (I c) w) = fw (tdf f a b) (I (c + 1)) w := by
  have h : gF (fw f (I c) w) 2 + 1 = I (c + 1) := I_add c 1
  unfold td
  rw [h]
  show sF 2 (I (c + 1)) (sF 2 (I c) (sA 0 (tdf f a b) (sA 0 f w))) = _
  rw [sA_sA, sF_sF]
  rfl
theorem sp40 {v : Nat} (hd : 4 ≤ d) (hR : gF w 1 = I n) (hv : gF w 2 = I v) (h1 : 1 ≤ n) (hn : n ≤ 9) (hx : x ≤ 3) : ∃ f c, Ev d 40 (ent0 40 [.ref 2, .int (I x)] (hp E w)) (.inl none, hp E (fw f (I (v + 1 + c)) (sF 1 (I n) w))) ∧ c ≤ 81 ∧ GR (fw f (I (v + 1 + c)) (sF 1 (I n) w)) n (fmN x n n) := by
  have key := down (n := n) (Q := fun lo => ∀ f c u, GR (fw f (I (v + 1 + c)) (sF 1 (I n) w)) n (fmN x n lo) → c ≤ 9 * lo → ∃ f' c', Ev d 40 (10, [.ref 2, .int (I x), .int (I lo), u], [], hp E (fw f (I (v + 1 + c)) (sF 1 (I n) w))) (.inl none, hp E (fw f' (I (v + 1 + c')) (sF 1 (I n) w))) ∧ c' ≤ 81 ∧ GR (fw f' (I (v + 1 + c')) (sF 1 (I n) w)) n (fmN x n n)) (fun lo hlo e f c u hG hc => ?_) (fun f c u hG hc => ?_) 0 (Nat.zero_le _) (ra 9 (gA w 0) 0) 0 jk GR_cbg (Nat.le_refl _)
  · obtain ⟨f, c, e, h2, h3⟩ := key
    refine ⟨f, c, p40_e_a (by omega) hR (sp39 (by omega) h1 hn) ?_, h2, h3⟩
    have : cbg n w = fw (ra 9 (gA w 0) 0) (I (v + 1 + 0)) (sF 1 (I n) w) := by
      unfold cbg
      rw [hv, show I v + 1 = I (v + 1) from I_add v 1]
      rfl
    rw [this]
    exact e
  · have k2 := down (n := n) (Q := fun hi => lo < hi → ∀ f c, GR (fw f (I (v + 1 + c)) (sF 1 (I n) w)) n (rwN x n lo hi (fmN x n lo)) → c ≤ 9 * lo + hi → ∃ f' c', Ev d 40 (22, [.ref 2, .int (I x), .int (I lo), .int (I hi)], [], hp E (fw f (I (v + 1 + c)) (sF 1 (I n) w))) (.inl none, hp E (fw f' (I (v + 1 + c')) (sF 1 (I n) w))) ∧ c' ≤ 81 ∧ GR (fw f' (I (v + 1 + c')) (sF 1 (I n) w)) n (fmN x n n)) (fun hi hhi e2 hlt f c hG hc => ?_) (fun hlt f c hG hc => ?_) (lo + 1) (by omega) (Nat.lt_succ_self _) f c (by rw [rwN_low lo _ _ (Nat.le_refl _)]; exact hG) (by omega)
    · obtain ⟨f', c', e', h⟩ := k2
      exact ⟨f', c', p40_10_a (lt_n (x := gF (fw f (I (v + 1 + c)) (sF 1 (I n) w)) 1) rfl hn hlo) (I_add lo 1) e', h⟩
    · have q := sp41 (E := E) (w := fw f (I (v + 1 + c)) (sF 1 (I n) w)) (d := d - 1) (x := x) rfl h1 hn hx hlo hhi
      rw [rwN_succ, decide_eq_true hlt, Bool.true_and] at e2
      have hl := lt_n (x := gF (fw f (I (v + 1 + c)) (sF 1 (I n) w)) 1) rfl hn hhi
      cases hf : fdB x n lo hi with
      | true =>
        rw [hf] at q
        rw [hf, if_pos rfl] at e2
        have hG' := GR_td hG (show lo ≠ hi by omega) (show lo < 9 by omega) (show hi < 9 by omega)
        have hs := sp48 (E := E) (w := fw f (I (v + 1 + c)) (sF 1 (I n) w)) (d := d - 1) (by omega) (show lo < 9 by omega) (show hi < 9 by omega)
        rw [td_fw] at hG' hs
        obtain ⟨f', c', e', h⟩ := e2 (by omega) (tdf f lo hi) (c + 1) hG' (by omega)
        exact ⟨f', c', p40_22_a (by omega) hl q (by decide) hs (I_add hi 1) e', h⟩
      | false =>
        rw [hf] at q
        rw [hf, if_neg (by decide)] at e2
        obtain ⟨f', c', e', h⟩ := e2 (by omega) f c hG (by omega)
        exact ⟨f', c', p40_22_b (by omega) hl q rfl (I_add hi 1) e', h⟩
    · obtain ⟨f', c', e', h⟩ := e f c (.int (I n)) hG (by omega)
      exact ⟨f', c', p40_22_c (nlt_n (x := gF (fw f (I (v + 1 + c)) (sF 1 (I n) w)) 1) rfl hn (Nat.le_refl _) (by omega)) (I_add lo 1) e', h⟩
  · exact ⟨f, c, p40_10_b (nlt_n (x := gF (fw f (I (v + 1 + c)) (sF 1 (I n) w)) 1) rfl hn (Nat.le_refl _) (by omega)), by omega, hG⟩
end
