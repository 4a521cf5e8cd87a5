/-! COLOURS, the reference. -/
section
variable {E : Nat × (Nat → Int32)} {w : Wd} {d n : Nat} {N : Nat → Nat}
theorem sp132 {b : Nat} (hd : 1 ≤ d) (hR : MR w n N) (G : GW n N) (hb : b < 512) : Ev d 132 (ent0 132 [.ref 27, .int (I b)] (hp E w)) (.inl (some (.int (I (rd n N b)))), hp E w) := by
  have hn := G.n9
  have key := down (n := n) (Q := fun j => ∀ u, Ev d 132 (4, [.ref 27, .int (I b), .int (I (fl (fun k a => if rdp N b k = true then a ||| nd (N k) b else a) j b)), .int (I j), u], [], hp E w) (.inl (some (.int (I (rd n N b)))), hp E w)) (fun j hj e u => ?_) (fun u => ?_) 0 (Nat.zero_le _)
  · exact p132_e_a (key _)
  · have e' := e (.int (I (nd (N j) b)))
    have hz : (gA w 10 j) &&& (I b ^^^ (-1 : Int32)) = I (nd (N j) b) := by rw [hR.2 j (by omega), I_nd _ (G.lt j)]
    rw [← hz] at e'
    by_cases hbit : b.testBit j = true
    · by_cases hp1 : pc (nd (N j) b) = 1
      · have hr : rdp N b j = true := by simp [rdp, hbit, hp1]
        have e2 : fl (fun k a => if rdp N b k = true then a ||| nd (N k) b else a) (j + 1) b = fl (fun k a => if rdp N b k = true then a ||| nd (N k) b else a) j b ||| nd (N j) b := by
          show (if rdp N b j = true then _ else _) = _
          rw [if_pos hr]
        rw [e2] at e'
        refine p132_4_a hd (lt_n hR.1 hn hj) rfl (by omega) (shr1T (tb_big hb) (by omega) hbit) hz (sp100 (nd_lt (G.lt j))) (by rw [hp1]; rfl) ?_ (I_add _ _) e'
        rw [hz, I_or]
      · have hr : ¬ rdp N b j = true := by simp [rdp, hp1]
        have e2 : fl (fun k a => if rdp N b k = true then a ||| nd (N k) b else a) (j + 1) b = fl (fun k a => if rdp N b k = true then a ||| nd (N k) b else a) j b := by
          show (if rdp N b j = true then _ else _) = _
          rw [if_neg hr]
        rw [e2] at e'
        have hpl := pc_le (nd (N j) b)
        exact p132_4_b hd (lt_n hR.1 hn hj) rfl (by omega) (shr1T (tb_big hb) (by omega) hbit) hz (sp100 (nd_lt (G.lt j))) (fun z => hp1 ((I_inj (by omega) (by omega)).mp (show I (pc (nd (N j) b)) = I 1 from z))) (I_add _ _) e'
    · have hr : ¬ rdp N b j = true := by simp [rdp, hbit]
      have e2 : fl (fun k a => if rdp N b k = true then a ||| nd (N k) b else a) (j + 1) b = fl (fun k a => if rdp N b k = true then a ||| nd (N k) b else a) j b := by
        show (if rdp N b j = true then _ else _) = _
        rw [if_neg hr]
      rw [e2] at e'
      exact p132_4_c (lt_n hR.1 hn hj) rfl (by omega) (shr1F (tb_big hb) (by omega) (by simpa using hbit)) (I_add _ _) e'
  · exact p132_4_d (nlt_n hR.1 hn (Nat.le_refl _) (by omega))
theorem rit9 (G : GW n N) {b : Nat} (hb : b < 2 ^ n) (j : Nat) : rit n N j b < 512 := Nat.lt_of_lt_of_le (rit_lt G hb j) (two_pow_le G.n9)
theorem sp134 {b : Nat} (hd : 2 ≤ d) (hR : MR w n N) (G : GW n N) (hb : b < 2 ^ n) : Ev d 134 (ent0 134 [.ref 27, .int (I b)] (hp E w)) (.inl (some (.int (I (lst n N b)))), hp E w) := by
  have key := down (n := 9) (Q := fun j => Ev d 134 (8, [.ref 27, .int (I b), .int (I (rit n N j b)), .int (I (rit n N (j + 1) b))], [], hp E w) (.inl (some (.int (I (lst n N b)))), hp E w)) (fun j hj e => ?_) ?_ 0 (by decide)
  · exact p134_e_a (by omega) (sp132 (by omega) hR G (rit9 G hb 0)) key
  · have hl := rit9 G hb j
    have hl2 := rit9 G hb (j + 1)
    by_cases h : rit n N (j + 1) b = rit n N j b
    · rw [lst_eq (i := j) (by omega) h]
      exact p134_8_b (by rw [h])
    · exact p134_8_a (by omega) (fun z => h ((I_inj (by omega) (by omega)).mp z)) (sp132 (by omega) hR G hl2) e
  · have hf := lst_fix G hb
    exact p134_8_b (show I (rd n N (rit n N 9 b)) = I (rit n N 9 b) by rw [hf])
theorem sp136l {b : Nat} (hd : 2 ≤ d) (hR : MR w n N) (G : GW n N) (hb : b < 2 ^ n) : Ev d 136 (23, [.ref 27, .int (I b), .int (I 0), .int (I b)], [], hp E w) (.inl (some (.int (I (rnds n N b)))), hp E w) := by
  have key : ∀ m j, j + m = 9 → Ev d 136 (23, [.ref 27, .int (I b), .int (I j), .int (I (rit n N j b))], [], hp E w) (.inl (some (.int (I (ff (fun j => decide (rd n N (rit n N j b) = rit n N j b)) m j)))), hp E w) := by
    intro m
    induction m with
    | zero =>
      intro j hj
      have : j = 9 := by omega
      subst this
      have hf := lst_fix G hb
      exact p136_23_b (by omega) (sp132 (by omega) hR G (rit9 G hb 9)) (by rw [hf])
    | succ m ih =>
      intro j hj
      have hl := rit9 G hb j
      have hl2 : rd n N (rit n N j b) < 512 := rit9 G hb (j + 1)
      unfold ff
      by_cases h : rd n N (rit n N j b) = rit n N j b
      · rw [if_pos (decide_eq_true h)]
        exact p136_23_b (by omega) (sp132 (by omega) hR G hl) (by rw [h])
      · rw [if_neg (by simpa using h)]
        exact p136_23_a (by omega) (sp132 (by omega) hR G hl) (fun z => h ((I_inj (by omega) (by omega)).mp z)) (sp132 (by omega) hR G hl) (I_add j 1) (ih (j + 1) (by omega))
  exact key 9 0 rfl
theorem sp133 {x : Int32} (hd : 1 ≤ d) (hR : MR w n N) (G : GW n N) : Ev d 133 (ent0 133 [.ref 27, .int x] (hp E w)) (.inl (some (.int (bI (isS n x)))), hp E w) := by
  by_cases h1 : x < 0
  · rw [show isS n x = false by simp [isS, h1]]
    exact p133_e_c h1
  · by_cases h2 : I (2 ^ n - 1) < x
    · rw [show isS n x = false by simp [isS, h1, h2]]
      exact p133_e_b hd h1 (sp99 hR.1 G.n9) h2
    · rw [show isS n x = true by simp [isS, h1, h2]]
      exact p133_e_a hd h1 (sp99 hR.1 G.n9) h2
/-- the least set: reference, from k down -/
def lbd (n : Nat) (N : Nat → Nat) : Nat → Nat → Nat
  | 0, a => a
  | k + 1, a => lbd n N k (if (decide (pc (k + 1) ≤ pc a) && decide (lst n N (k + 1) = 2 ^ n - 1)) = true then k + 1 else a)
theorem lst_all (G : GW n N) : lst n N (2 ^ n - 1) = 2 ^ n - 1 := by
  have h1p := Nat.one_le_two_pow (n := n)
  have hl := lst_lt G (b := 2 ^ n - 1) (by omega)
  apply Nat.eq_of_testBit_eq
  intro i
  apply bool_eq
  constructor
  · exact sub_all hl i
  · intro h
    exact fl_inv (P := fun a : Nat => a.testBit i = true) h (fun k a _ ha => rd_sup a i ha)
/-- the least of all good sets -/
def isLb (n : Nat) (N : Nat → Nat) (a : Nat) : Prop := a < 2 ^ n ∧ lst n N a = 2 ^ n - 1 ∧ ∀ t, t < 2 ^ n → lst n N t = 2 ^ n - 1 → pc a < pc t ∨ (pc a = pc t ∧ a ≤ t)
theorem isLb_eq {a b : Nat} (ha : isLb n N a) (hb : isLb n N b) : a = b := by
  rcases ha.2.2 b hb.1 hb.2.1 with h1 | h1 <;> rcases hb.2.2 a ha.1 ha.2.1 with h2 | h2 <;> omega
theorem pc_all_lt {b : Nat} (hn : n ≤ 9) (hb : b < 2 ^ n) (h : b ≠ 2 ^ n - 1) : pc b < pc (2 ^ n - 1) := by
  have h1p := Nat.one_le_two_pow (n := n)
  have h512 := two_pow_le hn
  exact pc_lt (by omega) (sub_all hb) h
theorem lb_isLb (G : GW n N) : isLb n N (lb n N (2 ^ n)) := by
  have h1p := Nat.one_le_two_pow (n := n)
  have key : ∀ k, k ≤ 2 ^ n → lst n N (lb n N k) = 2 ^ n - 1 ∧ (lb n N k < k ∨ lb n N k = 2 ^ n - 1) ∧ ∀ t, t < k → lst n N t = 2 ^ n - 1 → pc (lb n N k) < pc t ∨ (pc (lb n N k) = pc t ∧ lb n N k ≤ t) := by
    intro k
    induction k with
    | zero => intro _; exact ⟨lst_all G, Or.inr rfl, fun t ht => by omega⟩
    | succ k ih =>
      intro hk
      obtain ⟨a1, a2, a3⟩ := ih (by omega)
      have e : lb n N (k + 1) = if (decide (pc k < pc (lb n N k)) && decide (lst n N k = 2 ^ n - 1)) = true then k else lb n N k := rfl
      by_cases h1 : pc k < pc (lb n N k)
      · by_cases h2 : lst n N k = 2 ^ n - 1
        · rw [if_pos (by simp [h1, h2])] at e
          rw [e]
          refine ⟨h2, Or.inl (by omega), fun t ht hg => ?_⟩
          by_cases h3 : t = k
          · subst h3; exact Or.inr ⟨rfl, Nat.le_refl _⟩
          · rcases a3 t (by omega) hg with h | h
            · exact Or.inl (by omega)
            · exact Or.inl (by omega)
        · rw [if_neg (by simp [h2])] at e
          rw [e]
          refine ⟨a1, by omega, fun t ht hg => ?_⟩
          by_cases h3 : t = k
          · subst h3; exact absurd hg h2
          · exact a3 t (by omega) hg
      · rw [if_neg (by simp [h1])] at e
        rw [e]
        refine ⟨a1, by omega, fun t ht hg => ?_⟩
        by_cases h3 : t = k
        · subst h3
          by_cases h4 : pc (lb n N t) < pc t
          · exact Or.inl h4
          · right
            refine ⟨by omega, ?_⟩
            rcases a2 with h5 | h5
            · omega
            · rw [h5] at h1 h4 ⊢
              by_cases h6 : t = 2 ^ n - 1
              · omega
              · have := pc_all_lt G.n9 (show t < 2 ^ n by omega) h6; omega
        · exact a3 t (by omega) hg
  obtain ⟨a1, a2, a3⟩ := key (2 ^ n) (Nat.le_refl _)
  exact ⟨lb_lt n N (Nat.le_refl _), a1, a3⟩
theorem lst_zero (G : GW n N) : lst n N 0 = 0 := by
  have h : rd n N 0 = 0 := fl_inv (P := fun a => a = 0) rfl (fun k a _ ha => by
    rw [if_neg (by simp [rdp])]; exact ha)
  exact lst_eq (i := 0) (by decide) h
theorem lbd_isLb (G : GW n N) : ∀ k a, k < 2 ^ n → a < 2 ^ n → lst n N a = 2 ^ n - 1 → k ≤ a → (∀ t, t < 2 ^ n → k < t → lst n N t = 2 ^ n - 1 → pc a < pc t ∨ (pc a = pc t ∧ a ≤ t)) → isLb n N (lbd n N k a)
  | 0, a, _, ha, hg, _, hm => by
    refine ⟨ha, hg, fun t ht hgt => ?_⟩
    by_cases h0 : t = 0
    · subst h0
      rw [lst_zero G] at hgt
      have h1 : 2 ^ 1 ≤ 2 ^ n := Nat.pow_le_pow_right (by decide) G.n1
      omega
    · exact hm t ht (by omega) hgt
  | k + 1, a, hk, ha, hg, hka, hm => by
    unfold lbd
    by_cases h1 : pc (k + 1) ≤ pc a
    · by_cases h2 : lst n N (k + 1) = 2 ^ n - 1
      · rw [if_pos (by simp [h1, h2])]
        refine lbd_isLb G k (k + 1) (by omega) hk h2 (by omega) (fun t ht hkt hgt => ?_)
        by_cases h3 : t = k + 1
        · subst h3; exact Or.inr ⟨rfl, Nat.le_refl _⟩
        · rcases hm t ht (by omega) hgt with h | h
          · exact Or.inl (by omega)
          · by_cases h4 : pc (k + 1) < pc t
            · exact Or.inl h4
            · exact Or.inr ⟨by omega, by omega⟩
      · rw [if_neg (by simp [h2])]
        refine lbd_isLb G k a (by omega) ha hg (by omega) (fun t ht hkt hgt => ?_)
        by_cases h3 : t = k + 1
        · subst h3; exact absurd hgt h2
        · exact hm t ht (by omega) hgt
    · rw [if_neg (by simp [h1])]
      refine lbd_isLb G k a (by omega) ha hg (by omega) (fun t ht hkt hgt => ?_)
      by_cases h3 : t = k + 1
      · subst h3; exact Or.inl (by omega)
      · exact hm t ht (by omega) hgt
theorem lbd_lb (G : GW n N) : lbd n N (2 ^ n - 1) (2 ^ n - 1) = lb n N (2 ^ n) := by
  have h1p := Nat.one_le_two_pow (n := n)
  exact isLb_eq (lbd_isLb G (2 ^ n - 1) (2 ^ n - 1) (by omega) (by omega) (lst_all G) (Nat.le_refl _) (fun t ht h _ => by omega)) (lb_isLb G)
theorem I_dec (k : Nat) : I (k + 1) + (-1 : Int32) = I k := by
  rw [← I_add k 1, Int32.add_assoc, show I 1 + (-1 : Int32) = 0 by decide, Int32.add_zero]
theorem sp137l (hd : 3 ≤ d) (hR : MR w n N) (G : GW n N) : ∀ k a, k < 2 ^ n → a < 2 ^ n → Ev d 137 (15, [.ref 27, .int (I a), .int (I k)], [], hp E w) (.inl (some (.int (I (lbd n N k a)))), hp E w)
  | 0, a, _, _ => p137_15_d (by decide)
  | k + 1, a, hk, ha => by
    have h512 := two_pow_le G.n9
    have hp1 := pc_le (k + 1)
    have hp2 := pc_le a
    have hll := lst_lt G hk
    have h0 : (0 : Int32) < I (k + 1) := show I 0 < I (k + 1) from (I_lt (by omega) (by omega)).mpr (by omega)
    unfold lbd
    by_cases h1 : pc (k + 1) ≤ pc a
    · have h1' : ¬ I (pc a) < I (pc (k + 1)) := by rw [I_lt (by omega) (by omega)]; omega
      by_cases h2 : lst n N (k + 1) = 2 ^ n - 1
      · rw [if_pos (by simp [h1, h2])]
        exact p137_15_a (by omega) h0 (sp100 (by omega)) (sp100 (by omega)) h1' (sp134 (by omega) hR G hk) (sp99 hR.1 G.n9) (by rw [h2]) (I_dec k) (sp137l hd hR G k (k + 1) (by omega) hk)
      · rw [if_neg (by simp [h2])]
        exact p137_15_b (by omega) h0 (sp100 (by omega)) (sp100 (by omega)) h1' (sp134 (by omega) hR G hk) (sp99 hR.1 G.n9) (fun z => h2 ((I_inj (by omega) (by omega)).mp z)) (I_dec k) (sp137l hd hR G k a (by omega) ha)
    · have h1' : I (pc a) < I (pc (k + 1)) := by rw [I_lt (by omega) (by omega)]; omega
      rw [if_neg (by simp [h1])]
      exact p137_15_c (by omega) h0 (sp100 (by omega)) (sp100 (by omega)) h1' (I_dec k) (sp137l hd hR G k a (by omega) ha)
/-- THE REFERENCE'S ANSWERS -/
theorem sp137 (hd : 3 ≤ d) (hR : MR w n N) (G : GW n N) : Ev d 137 (ent0 137 [.ref 27] (hp E w)) (.inl (some (.int (I (lb n N (2 ^ n))))), hp E (sF 8 0 w)) := by
  have h1p := Nat.one_le_two_pow (n := n)
  have hR' : MR (sF 8 0 w) n N := hR
  rw [← lbd_lb G]
  exact p137_e_a (by omega) (sp99 hR'.1 G.n9) (sp99 hR'.1 G.n9) (sp137l hd hR' G _ _ (by omega) (by omega))
theorem sp135T {b : Nat} (hd : 3 ≤ d) (hR : MR w n N) (G : GW n N) (hb : b < 2 ^ n) (hS : isS n (I b) = true) : Ev d 135 (ent0 135 [.ref 27, .int (I b)] (hp E w)) (.inl (some (.int (I (lst n N b)))), hp E (sF 8 0 w)) := by
  have hR' : MR (sF 8 0 w) n N := hR
  have h1 := sp133 (E := E) (d := d - 1) (x := I b) (by omega) hR' G
  rw [hS] at h1
  exact p135_e_a (by omega) h1 (by decide) (sp134 (by omega) hR' G hb)
theorem sp135F {x : Int32} (hd : 3 ≤ d) (hR : MR w n N) (G : GW n N) (hS : isS n x = false) : Ev d 135 (ent0 135 [.ref 27, .int x] (hp E w)) (.inl (some (.int 0)), hp E (sF 8 1 (sF 8 0 w))) := by
  have hR' : MR (sF 8 0 w) n N := hR
  have h1 := sp133 (E := E) (d := d - 1) (x := x) (by omega) hR' G
  rw [hS] at h1
  exact p135_e_b (by omega) h1 rfl sp97
theorem sp136T {b : Nat} (hd : 3 ≤ d) (hR : MR w n N) (G : GW n N) (hb : b < 2 ^ n) (hS : isS n (I b) = true) : Ev d 136 (ent0 136 [.ref 27, .int (I b)] (hp E w)) (.inl (some (.int (I (rnds n N b)))), hp E (sF 8 0 w)) := by
  have hR' : MR (sF 8 0 w) n N := hR
  have h1 := sp133 (E := E) (d := d - 1) (x := I b) (by omega) hR' G
  rw [hS] at h1
  exact p136_e_b (by omega) h1 (by decide) (sp136l (by omega) hR' G hb)
theorem sp136F {x : Int32} (hd : 3 ≤ d) (hR : MR w n N) (G : GW n N) (hS : isS n x = false) : Ev d 136 (ent0 136 [.ref 27, .int x] (hp E w)) (.inl (some (.int 0)), hp E (sF 8 1 (sF 8 0 w))) := by
  have hR' : MR (sF 8 0 w) n N := hR
  have h1 := sp133 (E := E) (d := d - 1) (x := x) (by omega) hR' G
  rw [hS] at h1
  exact p136_e_a (by omega) h1 rfl sp97
end
