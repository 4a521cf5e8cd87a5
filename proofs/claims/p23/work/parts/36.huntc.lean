/-! THE HUNT, class. -/
section
variable {E : Nat × (Nat → Int32)} {w : Wd} {d n : Nat} {N : Nat → Nat}
theorem I_ne_m1 {a : Nat} (h : a < 2147483648) : I a ≠ (-1 : Int32) := fun z => by
  have := I_nneg h
  rw [z] at this
  exact this (by decide)
/-- addSets, seen over the rooms -/
def asf (n : Nat) (rest m : Nat) (g : Nat → Int32) : Nat → (Nat → Int32) × Bool := fun j => fl (fun k a => if a.1 (rest ||| 2 ^ k) = (-1 : Int32) then (upd a.1 (rest ||| 2 ^ k) (I m), true) else a) j (g, false)
theorem asf_succ (rest m : Nat) (g : Nat → Int32) (j : Nat) : asf n rest m g (j + 1) = if (asf n rest m g j).1 (rest ||| 2 ^ j) = (-1 : Int32) then (upd (asf n rest m g j).1 (rest ||| 2 ^ j) (I m), true) else asf n rest m g j := rfl
theorem asf_char {rest m : Nat} {g : Nat → Int32} (hm : m < 2147483648) : ∀ j, (∀ t, (g t = -1 ∧ ∃ k, k < j ∧ t = rest ||| 2 ^ k) → (asf n rest m g j).1 t = I m) ∧ (∀ t, ¬ (g t = -1 ∧ ∃ k, k < j ∧ t = rest ||| 2 ^ k) → (asf n rest m g j).1 t = g t) ∧ ((asf n rest m g j).2 = true ↔ ∃ k, k < j ∧ g (rest ||| 2 ^ k) = -1)
  | 0 => ⟨fun t ⟨_, k, hk, _⟩ => by omega, fun t _ => rfl, by
      constructor
      · intro h; cases h
      · rintro ⟨k, hk, _⟩; omega⟩
  | j + 1 => by
    obtain ⟨a1, a2, a3⟩ := asf_char (rest := rest) (g := g) hm j
    rw [asf_succ]
    by_cases hc : (asf n rest m g j).1 (rest ||| 2 ^ j) = (-1 : Int32)
    · rw [if_pos hc]
      have hg : g (rest ||| 2 ^ j) = -1 := by
        by_cases h : g (rest ||| 2 ^ j) = -1 ∧ ∃ k, k < j ∧ rest ||| 2 ^ j = rest ||| 2 ^ k
        · exact h.1
        · rw [← a2 _ h]; exact hc
      refine ⟨fun t ⟨h1, k, hk, h2⟩ => ?_, fun t h => ?_, ?_⟩
      · show upd _ _ _ t = _
        rw [upd_ap]
        by_cases e : t = rest ||| 2 ^ j
        · rw [if_pos e]
        · rw [if_neg e]
          refine a1 t ⟨h1, k, ?_, h2⟩
          by_cases e2 : k = j
          · subst e2; exact absurd h2 e
          · omega
      · show upd _ _ _ t = _
        rw [upd_ap]
        by_cases e : t = rest ||| 2 ^ j
        · exact absurd ⟨by rw [e]; exact hg, j, Nat.lt_succ_self j, e⟩ h
        · rw [if_neg e]
          exact a2 t (fun ⟨h1, k, hk, h2⟩ => h ⟨h1, k, by omega, h2⟩)
      · exact ⟨fun _ => ⟨j, Nat.lt_succ_self j, hg⟩, fun _ => rfl⟩
    · rw [if_neg hc]
      refine ⟨fun t ⟨h1, k, hk, h2⟩ => ?_, fun t h => a2 t (fun ⟨h1, k, hk, h2⟩ => h ⟨h1, k, by omega, h2⟩), ?_⟩
      · by_cases e2 : k = j
        · subst e2
          by_cases h : g t = -1 ∧ ∃ i, i < k ∧ t = rest ||| 2 ^ i
          · exact a1 t h
          · have := a2 t h
            rw [h2] at this h1
            rw [this] at hc
            exact absurd h1 hc
        · exact a1 t ⟨h1, k, by omega, h2⟩
      · rw [a3]
        constructor
        · rintro ⟨k, hk, h⟩; exact ⟨k, by omega, h⟩
        · rintro ⟨k, hk, h⟩
          by_cases e2 : k = j
          · subst e2
            by_cases h4 : g (rest ||| 2 ^ k) = -1 ∧ ∃ i, i < k ∧ rest ||| 2 ^ k = rest ||| 2 ^ i
            · obtain ⟨h5, i, hi, h6⟩ := h4
              exact ⟨i, hi, by rw [← h6]; exact h5⟩
            · rw [a2 _ h4] at hc
              exact absurd h hc
          · exact ⟨k, by omega, h⟩
theorem sp3 {rest m : Nat} {g : Nat → Int32} (hd : 1 ≤ d) (hR : GR w n N) (G : GW n N) (hr : rest < 2 ^ n) : Ev d 3 (ent0 3 [.ref 21, .ref 2, .int (I rest), .int (I m)] (hp E (sA 9 g w))) (.inl (some (.int (bI (asf n rest m g n).2))), hp E (sA 9 (asf n rest m g n).1 w)) := by
  have hn := G.n9
  have h512 := two_pow_le hn
  have key := down (n := n) (Q := fun j => ∀ u, Ev d 3 (6, [.ref 21, .ref 2, .int (I rest), .int (I m), .int (bI (asf n rest m g j).2), .int (I j), u], [], hp E (sA 9 (asf n rest m g j).1 w)) (.inl (some (.int (bI (asf n rest m g n).2))), hp E (sA 9 (asf n rest m g n).1 w))) (fun j hj e u => ?_) (fun u => ?_) 0 (Nat.zero_le _)
  · exact p3_e_a (key _)
  · have hlt := lt_two_of_bit hj hr
    have hg1 : (I rest ||| ((1 : Int32) <<< (I j &&& 31))) = I (rest ||| 2 ^ j) := by rw [I_pow (by omega), I_or]
    have e' := e (.int (I (rest ||| 2 ^ j)))
    rw [asf_succ] at e'
    by_cases hc : (asf n rest m g j).1 (rest ||| 2 ^ j) = (-1 : Int32)
    · rw [if_pos hc] at e'
      refine p3_6_a hd (lt_n hR.1 hn hj) hg1 (by omega) ?_ (I_add _ _) ?_ e'
      · rw [rv_in (by omega)]; exact hc
      · rw [rp_in (by omega), sA_sA]; rfl
    · rw [if_neg hc] at e'
      refine p3_6_b hd (lt_n hR.1 hn hj) hg1 (by omega) ?_ (I_add _ _) e'
      rw [rv_in (by omega)]; exact hc
  · exact p3_6_c hd (nlt_n hR.1 hn (Nat.le_refl _) (by omega)) (bI_and _)
/-- findSets, seen over the sets -/
def fsf (n : Nat) (N : Nat → Nat) (m : Nat) (g : Nat → Int32) : Nat → (Nat → Int32) × Bool := fun j => fl (fun rest a => if a.1 (nts n N rest) = I m then ((asf n rest (m + 1) a.1 n).1, a.2 || (asf n rest (m + 1) a.1 n).2) else a) j (g, false)
theorem fsf_succ (m : Nat) (g : Nat → Int32) (j : Nat) : fsf n N m g (j + 1) = if (fsf n N m g j).1 (nts n N j) = I m then ((asf n j (m + 1) (fsf n N m g j).1 n).1, (fsf n N m g j).2 || (asf n j (m + 1) (fsf n N m g j).1 n).2) else fsf n N m g j := rfl
def fsc (n : Nat) (N : Nat → Nat) (m : Nat) (g : Nat → Int32) (j t : Nat) : Prop := g t = -1 ∧ ∃ rest, rest < j ∧ ∃ k, k < n ∧ g (nts n N rest) = I m ∧ t = rest ||| 2 ^ k
theorem fsf_char {m : Nat} {g : Nat → Int32} (hm : m < 1000) : ∀ j, (∀ t, fsc n N m g j t → (fsf n N m g j).1 t = I (m + 1)) ∧ (∀ t, ¬ fsc n N m g j t → (fsf n N m g j).1 t = g t) ∧ ((fsf n N m g j).2 = true ↔ ∃ t, fsc n N m g j t)
  | 0 => ⟨fun t ⟨_, k, hk, _⟩ => by omega, fun t _ => rfl, by
      constructor
      · intro h; cases h
      · rintro ⟨t, _, k, hk, _⟩; omega⟩
  | j + 1 => by
    obtain ⟨a1, a2, a3⟩ := fsf_char (g := g) hm j
    have hup : ∀ t, fsc n N m g j t → fsc n N m g (j + 1) t := fun t ⟨h1, r, hr, h2⟩ => ⟨h1, r, by omega, h2⟩
    have hne : I (m + 1) ≠ I m := fun z => by
      have := (I_inj (by omega) (by omega)).mp z; omega
    have htest : (fsf n N m g j).1 (nts n N j) = I m ↔ g (nts n N j) = I m := by
      by_cases h : fsc n N m g j (nts n N j)
      · rw [a1 _ h]
        constructor
        · intro z; exact absurd z hne
        · intro z
          have h1 := h.1
          rw [z] at h1
          exact absurd h1 (I_ne_m1 (by omega))
      · rw [a2 _ h]
    rw [fsf_succ]
    by_cases hc : (fsf n N m g j).1 (nts n N j) = I m
    · rw [if_pos hc]
      have hg := htest.mp hc
      obtain ⟨b1, b2, b3⟩ := asf_char (n := n) (rest := j) (g := (fsf n N m g j).1) (m := m + 1) (by omega) n
      refine ⟨fun t ⟨h1, r, hr, k, hk, h2, h3⟩ => ?_, fun t h => ?_, ?_⟩
      · by_cases h4 : fsc n N m g j t
        · have h5 := a1 t h4
          rw [b2 t (fun z => by rw [h5] at z; exact I_ne_m1 (by omega) z.1)]
          exact h5
        · have h5 := a2 t h4
          by_cases e : r = j
          · subst e
            exact b1 t ⟨by rw [h5]; exact h1, k, hk, h3⟩
          · exact absurd ⟨h1, r, by omega, k, hk, h2, h3⟩ h4
      · have h4 : ¬ fsc n N m g j t := fun z => h (hup t z)
        have h5 := a2 t h4
        rw [b2 t (fun ⟨z1, k, hk, z2⟩ => h ⟨by rw [← h5]; exact z1, j, Nat.lt_succ_self j, k, hk, hg, z2⟩)]
        exact h5
      · show ((fsf n N m g j).2 || (asf n j (m + 1) (fsf n N m g j).1 n).2) = true ↔ _
        rw [Bool.or_eq_true, a3, b3]
        constructor
        · rintro (⟨t, ht⟩ | ⟨k, hk, h1⟩)
          · exact ⟨t, hup t ht⟩
          · by_cases h4 : fsc n N m g j (j ||| 2 ^ k)
            · exact ⟨_, hup _ h4⟩
            · exact ⟨j ||| 2 ^ k, by rw [← a2 _ h4]; exact h1, j, Nat.lt_succ_self j, k, hk, hg, rfl⟩
        · rintro ⟨t, h1, r, hr, k, hk, h2, h3⟩
          by_cases h4 : fsc n N m g j t
          · exact Or.inl ⟨t, h4⟩
          · by_cases e : r = j
            · subst e
              exact Or.inr ⟨k, hk, by rw [← h3, a2 t h4]; exact h1⟩
            · exact absurd ⟨h1, r, by omega, k, hk, h2, h3⟩ h4
    · rw [if_neg hc]
      have hdn : ∀ t, fsc n N m g (j + 1) t → fsc n N m g j t := fun t ⟨h1, r, hr, k, hk, h2, h3⟩ => by
        by_cases e : r = j
        · subst e
          exact absurd (htest.mpr h2) hc
        · exact ⟨h1, r, by omega, k, hk, h2, h3⟩
      exact ⟨fun t h => a1 t (hdn t h), fun t h => a2 t (fun z => h (hup t z)), by rw [a3]; exact ⟨fun ⟨t, h⟩ => ⟨t, hup t h⟩, fun ⟨t, h⟩ => ⟨t, hdn t h⟩⟩⟩
theorem sp2 {m : Nat} {g : Nat → Int32} (hd : 2 ≤ d) (hR : GR w n N) (G : GW n N) (hm : m < 1000) (hmv : ∀ t, t < 2 ^ n → gA w 8 t = I (nts n N t)) : Ev d 2 (ent0 2 [.ref 21, .ref 2, .int (I (m + 1))] (hp E (sA 9 g w))) (.inl (some (.int (bI (fsf n N m g (2 ^ n)).2))), hp E (sA 9 (fsf n N m g (2 ^ n)).1 w)) := by
  have hn := G.n9
  have h512 := two_pow_le hn
  have h1p := Nat.one_le_two_pow (n := n)
  have key := down (n := 2 ^ n) (Q := fun j => Ev d 2 (5, [.ref 21, .ref 2, .int (I (m + 1)), .int (bI (fsf n N m g j).2), .int (I j)], [], hp E (sA 9 (fsf n N m g j).1 w)) (.inl (some (.int (bI (fsf n N m g (2 ^ n)).2))), hp E (sA 9 (fsf n N m g (2 ^ n)).1 w))) (fun j hj e => ?_) ?_ 0 (Nat.zero_le _)
  · exact p2_e_a key
  · have hlast : ¬ I (2 ^ n - 1) < I j := by rw [I_lt (by omega) (by omega)]; omega
    have hR' : GR (sA 9 (fsf n N m g j).1 w) n N := hR
    have hnt := nts_lt9 G j
    have hsub : I (m + 1) - (1 : Int32) = I m := by rw [show (1 : Int32) = I 1 from rfl, I_sub (by omega)]; rfl
    rw [fsf_succ] at e
    by_cases hc : (fsf n N m g j).1 (nts n N j) = I m
    · rw [if_pos hc] at e
      refine p2_5_a (by omega) (sp42 hR' G) hlast rfl (by omega) (by rw [rv_in (by omega)]; exact hmv j hj) (by omega) ?_ rfl (sp3 (by omega) hR G hj) (bI_or _ _) (I_add _ _) e
      rw [rv_in (by omega), hsub]; exact hc
    · rw [if_neg hc] at e
      refine p2_5_b (by omega) (sp42 hR' G) hlast rfl (by omega) (by rw [rv_in (by omega)]; exact hmv j hj) (by omega) ?_ (I_add _ _) e
      rw [rv_in (by omega), hsub]; exact hc
  · exact p2_5_c (by omega) (sp42 (show GR (sA 9 (fsf n N m g (2 ^ n)).1 w) n N from hR) G) (by rw [I_lt (by omega) (by omega)]; omega) (bI_and _)
/-- the table as far as m, and all of it -/
def lv (n : Nat) (N : Nat → Nat) (m t : Nat) : Int32 := if Hn n N t < m ∧ Hn n N t < 512 then I (Hn n N t) else -1
def hv (n : Nat) (N : Nat → Nat) (t : Nat) : Int32 := if Hn n N t < 512 then I (Hn n N t) else -1
theorem lv_m1 {m t : Nat} : lv n N m t = -1 ↔ ¬ (Hn n N t < m ∧ Hn n N t < 512) := by
  unfold lv
  by_cases h : Hn n N t < m ∧ Hn n N t < 512
  · rw [if_pos h]
    exact ⟨fun z => absurd z (I_ne_m1 (by omega)), fun z => absurd h z⟩
  · rw [if_neg h]
    exact ⟨fun _ => h, fun _ => rfl⟩
theorem lv_I {m t : Nat} (hm : m < 512) : lv n N (m + 1) t = I m ↔ Hn n N t = m := by
  unfold lv
  by_cases h : Hn n N t < m + 1 ∧ Hn n N t < 512
  · rw [if_pos h, I_inj (by omega) (by omega)]
  · rw [if_neg h]
    exact ⟨fun z => absurd z.symm (I_ne_m1 (by omega)), fun z => absurd ⟨by omega, by omega⟩ h⟩
theorem new_iff (G : GW n N) {m t : Nat} (hm : m < 512) (ht : t < 2 ^ n) : fsc n N m (fun t => lv n N (m + 1) t) (2 ^ n) t ↔ (Hn n N t = m + 1 ∧ m + 1 < 512) := by
  have hbk : (∃ rest, rest < 2 ^ n ∧ ∃ k, k < n ∧ lv n N (m + 1) (nts n N rest) = I m ∧ t = rest ||| 2 ^ k) ↔ bk n N m t := by
    constructor
    · rintro ⟨r, hr, k, hk, h1, h2⟩; exact ⟨r, hr, k, hk, (lv_I hm).mp h1, h2⟩
    · rintro ⟨r, hr, k, hk, h1, h2⟩; exact ⟨r, hr, k, hk, (lv_I hm).mpr h1, h2⟩
  unfold fsc
  rw [hbk, lv_m1]
  have hle := Hn_le (n := n) (N := N) t
  constructor
  · rintro ⟨h1, h2⟩
    have hno : hq n N m t = false := by
      cases h : hq n N m t with
      | false => rfl
      | true => have := Hn_le_of h; exact absurd ⟨by omega, by omega⟩ h1
    have h3 := (bk_iff G ht hm hno).mpr h2
    have h4 := Hn_le_of h3
    have h5 : Hn n N t < 512 := by
      by_cases h6 : Hn n N t < 512
      · exact h6
      · have := Hn_none G ht (by omega) (m + 1)
        rw [h3] at this; cases this
    have h7 : ¬ Hn n N t < m + 1 := fun z => h1 ⟨z, h5⟩
    omega
  · rintro ⟨h1, h2⟩
    have h3 := Hn_yes (n := n) (N := N) (s := t) (by omega)
    rw [h1] at h3
    have hno : hq n N m t = false := Hn_no (by omega)
    exact ⟨by omega, (bk_iff G ht hm hno).mp h3⟩
theorem fsc_congr {m j t : Nat} {g g' : Nat → Int32} (h1 : g t = g' t) (h2 : ∀ r, r < j → g (nts n N r) = g' (nts n N r)) : fsc n N m g j t ↔ fsc n N m g' j t := by
  unfold fsc
  rw [h1]
  constructor
  · rintro ⟨a, r, hr, k, hk, b, c⟩; exact ⟨a, r, hr, k, hk, by rw [← h2 r hr]; exact b, c⟩
  · rintro ⟨a, r, hr, k, hk, b, c⟩; exact ⟨a, r, hr, k, hk, by rw [h2 r hr]; exact b, c⟩
theorem fsc_lt {m t : Nat} {g : Nat → Int32} (h : fsc n N m g (2 ^ n) t) : t < 2 ^ n := by
  obtain ⟨_, r, hr, k, hk, _, rfl⟩ := h
  exact lt_two_of_bit hk hr
theorem fs_next (G : GW n N) {m : Nat} {g : Nat → Int32} (hm : m < 512) (hg : ∀ t, t < 2 ^ n → g t = lv n N (m + 1) t) : (∀ t, t < 2 ^ n → (fsf n N m g (2 ^ n)).1 t = lv n N (m + 2) t) ∧ ((fsf n N m g (2 ^ n)).2 = false → ∀ t, t < 2 ^ n → (fsf n N m g (2 ^ n)).1 t = hv n N t) := by
  obtain ⟨a1, a2, a3⟩ := fsf_char (n := n) (N := N) (g := g) (m := m) (by omega) (2 ^ n)
  have hc : ∀ t, t < 2 ^ n → (fsc n N m g (2 ^ n) t ↔ (Hn n N t = m + 1 ∧ m + 1 < 512)) := fun t ht =>
    (fsc_congr (hg t ht) (fun r _ => hg _ (nts_lt G r))).trans (new_iff G hm ht)
  have first : ∀ t, t < 2 ^ n → (fsf n N m g (2 ^ n)).1 t = lv n N (m + 2) t := fun t ht => by
    by_cases h : fsc n N m g (2 ^ n) t
    · rw [a1 t h]
      obtain ⟨h1, h2⟩ := (hc t ht).mp h
      unfold lv
      rw [if_pos ⟨by omega, by omega⟩, h1]
    · rw [a2 t h, hg t ht]
      have h1 : ¬ (Hn n N t = m + 1 ∧ m + 1 < 512) := fun z => h ((hc t ht).mpr z)
      unfold lv
      by_cases h2 : Hn n N t < m + 1 ∧ Hn n N t < 512
      · rw [if_pos h2, if_pos ⟨by omega, h2.2⟩]
      · rw [if_neg h2, if_neg (fun z => by
          have : ¬ Hn n N t < m + 1 := fun z2 => h2 ⟨z2, z.2⟩
          exact h1 ⟨by omega, by omega⟩)]
  refine ⟨first, fun hf t ht => ?_⟩
  rw [first t ht]
  unfold lv hv
  by_cases h5 : Hn n N t < 512
  · rw [if_pos h5]
    by_cases h6 : m + 1 < 512
    · have hno : ∀ t, t < 2 ^ n → Hn n N t ≠ m + 1 := fun t ht z => by
        have := a3.mpr ⟨t, (hc t ht).mpr ⟨z, h6⟩⟩
        rw [hf] at this; cases this
      have h9 := Hn_le_of (Hn_gap G hno _ t ht (Hn_yes h5))
      rw [if_pos ⟨by omega, h5⟩]
    · rw [if_pos ⟨by omega, h5⟩]
  · rw [if_neg h5, if_neg (fun z => h5 z.2)]
/-- the class's tables are right -/
def HT (w : Wd) (n : Nat) (N : Nat → Nat) : Prop := ∀ t, t < 2 ^ n → gA w 8 t = I (nts n N t) ∧ gA w 9 t = hv n N t
theorem sp1loop (hd : 3 ≤ d) (hR : GR w n N) (G : GW n N) (hmv : ∀ t, t < 2 ^ n → gA w 8 t = I (nts n N t)) : ∀ e m (g : Nat → Int32) (gr : Bool), m + e = 512 → (∀ t, t < 2 ^ n → g t = lv n N (m + 1) t) → (gr = false → ∀ t, t < 2 ^ n → g t = hv n N t) → ∃ g', Ev d 1 (62, [.ref 21, .ref 2, .int (bI gr), .int (I (m + 1))], [], hp E (sA 9 g w)) (.inl none, hp E (sF 5 (gF w 2) (sA 9 g' w))) ∧ ∀ t, t < 2 ^ n → g' t = hv n N t
  | e, m, g, false, _, _, hf => ⟨g, p1_62_c (by omega) rfl rfl, hf rfl⟩
  | 0, m, g, true, hm, hg, _ => by
    have : m = 512 := by omega
    subst this
    refine ⟨g, p1_62_b (by omega) (by decide) (by decide) rfl, fun t ht => ?_⟩
    rw [hg t ht]
    unfold lv hv
    by_cases h5 : Hn n N t < 512
    · rw [if_pos ⟨by omega, h5⟩, if_pos h5]
    · rw [if_neg h5, if_neg (fun z => h5 z.2)]
  | e + 1, m, g, true, hm, hg, _ => by
    obtain ⟨b1, b2⟩ := fs_next G (show m < 512 by omega) hg
    obtain ⟨g', e1, e2⟩ := sp1loop hd hR G hmv e (m + 1) (fsf n N m g (2 ^ n)).1 (fsf n N m g (2 ^ n)).2 (by omega) b1 b2
    refine ⟨g', p1_62_a (by omega) (by decide) ?_ (sp2 (by omega) hR G (by omega) hmv) (I_add (m + 1) 1) e1, e2⟩
    show ¬ I 512 < I (m + 1)
    rw [I_lt (by omega) (by omega)]; omega
def mvf (n : Nat) (N : Nat → Nat) (j : Nat) (f : Nat → Int32) : Nat → Int32 := fun i => if i < j then I (nts n N i) else f i
theorem mvf_upd (j : Nat) (f : Nat → Int32) : upd (mvf n N j f) j (I (nts n N j)) = mvf n N (j + 1) f := by
  funext i
  rw [upd_ap]
  unfold mvf
  by_cases h1 : i = j
  · subst h1; simp
  · rw [if_neg h1]
    by_cases h2 : i < j
    · rw [if_pos h2, if_pos (by omega)]
    · rw [if_neg h2, if_neg (by omega)]
/-- prepare: new tables -/
theorem sp1n (hd : 4 ≤ d) (hR : GR w n N) (G : GW n N) (hv' : ¬ gF w 5 = gF w 2) : ∃ f g, Ev d 1 (ent0 1 [.ref 21, .ref 2] (hp E w)) (.inl none, hp E (sF 5 (gF w 2) (sA 9 g (sA 8 f w)))) ∧ HT (sF 5 (gF w 2) (sA 9 g (sA 8 f w))) n N := by
  have hn := G.n9
  have h512 := two_pow_le hn
  have h1p := Nat.one_le_two_pow (n := n)
  have hmv : ∀ t, t < 2 ^ n → gA (sA 8 (mvf n N (2 ^ n) (gA w 8)) w) 8 t = I (nts n N t) := fun t ht => by
    show mvf n N (2 ^ n) (gA w 8) t = _
    unfold mvf
    rw [if_pos ht]
  have hg0 : ∀ t, t < 2 ^ n → (upd (ra 512 (gA w 9) (-1)) 0 (I 0)) t = lv n N 1 t := fun t ht => by
    rw [upd_ap]
    by_cases h0 : t = 0
    · subst h0
      rw [if_pos rfl]
      unfold lv
      rw [Hn_zero, if_pos ⟨by decide, by decide⟩]
    · have h1 := Hn_pos (n := n) (N := N) h0
      rw [if_neg h0]
      unfold lv ra
      rw [if_neg (show ¬ (Hn n N t < 1 ∧ Hn n N t < 512) from fun z => by omega), if_pos (show t < 512 by omega)]
  obtain ⟨g', e1, e2⟩ := sp1loop (E := E) (d := d) (by omega) (show GR (sA 8 (mvf n N (2 ^ n) (gA w 8)) w) n N from hR) G hmv 512 0 (upd (ra 512 (gA w 9) (-1)) 0 (I 0)) true rfl hg0 (fun h => by cases h)
  refine ⟨mvf n N (2 ^ n) (gA w 8), g', ?_, fun t ht => ⟨hmv t ht, e2 t ht⟩⟩
  have key := down (n := 2 ^ n) (Q := fun j => Ev d 1 (14, [.ref 21, .ref 2, .int (I j), jk], [], hp E (sA 8 (mvf n N j (gA w 8)) w)) (.inl none, hp E (sF 5 (gF w 2) (sA 9 g' (sA 8 (mvf n N (2 ^ n) (gA w 8)) w))))) (fun j hj e => ?_) ?_ 0 (Nat.zero_le _)
  · refine p1_e_b (by omega) hv' ?_
    have h0 : mvf n N 0 (gA w 8) = gA w 8 := by funext i; simp [mvf]
    rw [h0, sA_self] at key
    exact key
  · have hlast : ¬ I (2 ^ n - 1) < I j := by rw [I_lt (by omega) (by omega)]; omega
    have hR' : GR (sA 8 (mvf n N j (gA w 8)) w) n N := hR
    refine p1_14_a (by omega) (sp42 hR' G) hlast (sp49 (by omega) hR' G (by omega)) rfl (by omega) (I_add j 1) ?_ e
    rw [rp_in (by omega), sA_sA]
    show sA 8 (upd (mvf n N j (gA w 8)) j (I (nts n N j))) w = _
    rw [mvf_upd]
  · have hR' : GR (sA 8 (mvf n N (2 ^ n) (gA w 8)) w) n N := hR
    refine p1_14_b (j1 := 0) (by omega) (sp42 hR' G) (by rw [I_lt (by omega) (by omega)]; omega) rfl (by omega) ?_ e1
    rw [rp_in (by omega), sA_sA]
    rfl
theorem sp4 {s : Nat} (hd : 1 ≤ d) (hT : HT w n N) (G : GW n N) (hs : s < 2 ^ n) : Ev d 4 (ent0 4 [.ref 21, .int (I s)] (hp E w)) (.inl (some (.int (hv n N s))), hp E w) := by
  have h512 := two_pow_le G.n9
  exact p4_e_a hd rfl (by omega) (by rw [rv_in (by omega)]; exact (hT s hs).2)
theorem ff_T {p : Nat → Bool} {m j : Nat} (h : p j = true) : ff p (m + 1) j = j := by unfold ff; rw [if_pos h]
theorem ff_F {p : Nat → Bool} {m j : Nat} (h : p j = false) : ff p (m + 1) j = ff p m (j + 1) := by
  show (if p j = true then j else ff p m (j + 1)) = _
  rw [if_neg (by rw [h]; decide)]
/-- the best shot -/
def aimB (n : Nat) (N : Nat → Nat) (s : Nat) : Nat := ff (fun r => decide (Hn n N (bh n N s r) = Hn n N s - 1)) n 0
def aimV (n : Nat) (N : Nat → Nat) (s : Nat) : Int32 := if Hn n N s = 0 ∨ Hn n N s = 512 ∨ aimB n N s = n then -1 else I (aimB n N s)
theorem sp5 {s : Nat} (hd : 2 ≤ d) (hR : GR w n N) (hT : HT w n N) (G : GW n N) (hs : s < 2 ^ n) : Ev d 5 (ent0 5 [.ref 21, .ref 2, .int (I s)] (hp E w)) (.inl (some (.int (aimV n N s))), hp E w) := by
  have hn := G.n9
  have h512 := two_pow_le hn
  have hle := Hn_le (n := n) (N := N) s
  unfold aimV
  by_cases h1 : Hn n N s = 0 ∨ Hn n N s = 512
  · rw [if_pos (by rcases h1 with h | h <;> simp [h])]
    refine p5_e_a (by omega) (sp4 (by omega) hT G hs) ?_
    unfold hv
    rcases h1 with h | h
    · rw [h]; decide
    · rw [h]; decide
  · have h2 : Hn n N s < 512 := by omega
    have h3 : 0 < Hn n N s := by omega
    have hvs : hv n N s = I (Hn n N s) := by unfold hv; rw [if_pos h2]
    have hsub : I (Hn n N s) - (1 : Int32) = I (Hn n N s - 1) := by rw [show (1 : Int32) = I 1 from rfl, I_sub (by omega)]
    have key : ∀ m j, j + m = n → Ev d 5 (15, [.ref 21, .ref 2, .int (I s), .int (I (Hn n N s)), .int (I j)], [], hp E w) (.inl (some (.int (if ff (fun r => decide (Hn n N (bh n N s r) = Hn n N s - 1)) m j = n then -1 else I (ff (fun r => decide (Hn n N (bh n N s r) = Hn n N s - 1)) m j)))), hp E w) := by
      intro m
      induction m with
      | zero =>
        intro j hj
        have : j = n := by omega
        subst this
        unfold ff
        rw [if_pos rfl]
        exact p5_15_c (by omega) (nlt_n hR.1 hn (Nat.le_refl _) (by omega))
      | succ m ih =>
        intro j hj
        have hjn : j < n := by omega
        have hnd : nd s (2 ^ j) < 2 ^ n := nd_lt2 hs
        have hb := bh_lt G s j
        have hmv : rv 512 (gA w 8) (nd s (2 ^ j)) = I (bh n N s j) := by rw [rv_in (by omega)]; exact (hT _ hnd).1
        have hg1 : (I s &&& (((1 : Int32) <<< (I j &&& 31)) ^^^ (-1 : Int32))) = I (nd s (2 ^ j)) := by rw [I_pow (by omega), I_nd _ (by omega)]
        have htest : hv n N (bh n N s j) = I (Hn n N s) - (1 : Int32) ↔ Hn n N (bh n N s j) = Hn n N s - 1 := by
          rw [hsub]
          unfold hv
          by_cases h4 : Hn n N (bh n N s j) < 512
          · rw [if_pos h4, I_inj (by omega) (by omega)]
          · rw [if_neg h4]
            exact ⟨fun z => absurd z.symm (I_ne_m1 (by omega)), fun z => by omega⟩
        by_cases hc : Hn n N (bh n N s j) = Hn n N s - 1
        · rw [ff_T (decide_eq_true hc), if_neg (by omega)]
          exact p5_15_a (by omega) (lt_n hR.1 hn hjn) hg1 (by omega) hmv (sp4 (by omega) hT G hb) (htest.mpr hc)
        · rw [ff_F (decide_eq_false hc)]
          exact p5_15_b (by omega) (lt_n hR.1 hn hjn) hg1 (by omega) hmv (sp4 (by omega) hT G hb) (fun z => hc (htest.mp z)) (I_add j 1) (ih (j + 1) (by omega))
    have hk := key n 0 (by omega)
    have h4 := sp4 (E := E) (d := d - 1) (by omega) hT G hs
    rw [hvs] at h4
    have hif : (if Hn n N s = 0 ∨ Hn n N s = 512 ∨ aimB n N s = n then (-1 : Int32) else I (aimB n N s)) = if aimB n N s = n then -1 else I (aimB n N s) := by
      by_cases h5 : aimB n N s = n
      · rw [if_pos (Or.inr (Or.inr h5)), if_pos h5]
      · rw [if_neg (by omega), if_neg h5]
    rw [hif]
    exact p5_e_b (by omega) h4 ((I_lt (a := 0) (by omega) (by omega)).mpr h3) hk
/-- the hunt, if it is at most so much -/
def hma (n : Nat) (N : Nat → Nat) (most s : Nat) : Int32 := if Hn n N s ≤ most then I (Hn n N s) else -1
end
