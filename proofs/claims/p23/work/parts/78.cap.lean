/-! THE FACT: no chase needs more than 98 moves. -/
section
variable {n : Nat} {N : Nat → Nat}
/-- the graph of the rooms in a row -/
def Nf (N : Nat → Nat) (f : Nat → Nat) (m i : Nat) : Nat := if i < m then setB m (fun j => (N (f i)).testBit (f j)) else 0
theorem Nf_tb (f : Nat → Nat) (m i j : Nat) : (Nf N f m i).testBit j = (decide (i < m) && (decide (j < m) && (N (f i)).testBit (f j))) := by
  unfold Nf
  by_cases h : i < m
  · rw [if_pos h, setB_tb, decide_eq_true h, Bool.true_and]
  · rw [if_neg h, decide_eq_false h, Bool.false_and, Nat.zero_testBit]
theorem Nf_nr {f : Nat → Nat} {m i j : Nat} (hi : ∀ i j, i < m → j < m → f i = f j → i = j) (h1 : i < m) (h2 : j < m) : nr (Nf N f m) i j = nr N (f i) (f j) := by
  unfold nr
  rw [Nf_tb, decide_eq_true h1, decide_eq_true h2, Bool.true_and, Bool.true_and]
  rw [show decide (i = j) = decide (f i = f j) from decide_eq_decide.mpr ⟨fun h => by rw [h], hi i j h1 h2⟩]
theorem Nf_GW (G : GW n N) {f : Nat → Nat} {m : Nat} (hm : 1 ≤ m) (hm9 : m ≤ 9) : GW m (Nf N f m) := by
  refine ⟨hm, hm9, fun i => ?_, fun i hi => ?_, fun i j => ?_, fun i => ?_⟩
  · unfold Nf
    by_cases h : i < m
    · rw [if_pos h]; exact setB_lt _ m
    · rw [if_neg h]; exact Nat.two_pow_pos m
  · unfold Nf
    rw [if_neg (by omega)]
  · rw [Nf_tb, Nf_tb, G.2.2.2.2.1 (f i) (f j)]
    cases decide (i < m) <;> cases decide (j < m) <;> rfl
  · rw [Nf_tb, G.2.2.2.2.2 (f i), Bool.and_false, Bool.and_false]
theorem Nf_pc (G : GW n N) {f : Nat → Nat} {m i : Nat} (hl : ∀ i, i < m → f i < n) (hi : ∀ i j, i < m → j < m → f i = f j → i = j) (h : i < m) : pc (Nf N f m i) ≤ pc (N (f i)) := by
  have hm9 : m ≤ 9 := Nat.le_trans (inj_le hl hi) G.n9
  have e1 : ∀ d, m + d ≤ 9 → sm (fun k => ((Nf N f m i).testBit k).toNat) (m + d) = sm (fun k => ((Nf N f m i).testBit k).toNat) m := by
    intro d
    induction d with
    | zero => intro _; rfl
    | succ d ih =>
      intro hd
      have ih' := ih (by omega)
      have zb : (Nf N f m i).testBit (m + d) = false := by
        rw [Nf_tb, decide_eq_false (show ¬ m + d < m by omega), Bool.false_and, Bool.and_false]
      have z : ((Nf N f m i).testBit (m + d)).toNat = 0 := congrArg Bool.toNat zb
      show sm (fun k => ((Nf N f m i).testBit k).toNat) (m + d) + ((Nf N f m i).testBit (m + d)).toNat = sm (fun k => ((Nf N f m i).testBit k).toNat) m
      rw [z]
      exact ih'
  have e2 := e1 (9 - m) (by omega)
  rw [show m + (9 - m) = 9 by omega, ← pc_sm] at e2
  have e3 : sm (fun k => ((Nf N f m i).testBit k).toNat) m ≤ sm (fun k => ((N (f i)).testBit (f k)).toNat) m := sm_le (fun k hk => by
    have e : (Nf N f m i).testBit k = (N (f i)).testBit (f k) := by
      rw [Nf_tb, decide_eq_true h, decide_eq_true hk, Bool.true_and, Bool.true_and]
    exact Nat.le_of_eq (congrArg Bool.toNat e))
  have e4 := inj_sm (m := m) (h := 9) (f := f) (fun x => ((N (f i)).testBit x).toNat) (fun i hk => by have := hl i hk; have := G.n9; omega) hi
  rw [pc_sm (N (f i)), e2]
  exact Nat.le_trans e3 e4
theorem Nf_wc (G : GW n N) {r0 m : Nat} {f : Nat → Nat} (hr : r0 < n) (hm9 : m ≤ 9) (hm : 1 ≤ m) (hk : ∀ i, i < m → Kn n N r0 (f i)) (hi : ∀ i j, i < m → j < m → f i = f j → i = j) (hs : ∀ x, Kn n N r0 x → ∃ i, i < m ∧ f i = x) : ∀ k a b r, a < m → b < m → r < m → wc m (Nf N f m) k a b r = true → wc n N k (f a) (f b) (f r) = true := by
  have G' : GW m (Nf N f m) := Nf_GW G hm hm9
  have h9 := G.n9
  intro k
  induction k with
  | zero =>
    intro a b r _ _ _ h
    rcases ct_iff.mp h with h | h
    · exact wc_caught (Or.inl (by rw [h]))
    · exact wc_caught (Or.inr (by rw [h]))
  | succ k ih =>
    intro a b r ha hb hrm h
    rcases wc_succ.mp h with h | ⟨x, hx, h1, y, hy, h2, h3⟩
    · rcases h with h | h
      · exact wc_caught (Or.inl (by rw [h]))
      · exact wc_caught (Or.inr (by rw [h]))
    · have hym : y < m := nr_lt G' hb h2
      have hfx := Kn.lt G hr (hk x hx)
      have hfy := Kn.lt G hr (hk y hym)
      refine wc_succ.mpr (Or.inr ⟨f x, hfx, by rw [← Nf_nr hi ha hx]; exact h1, f y, by omega, by rw [← Nf_nr hi hb hym]; exact h2, rb_iff.mpr ?_⟩)
      rcases rb_iff.mp h3 with h | h
      · rcases h with h | h
        · exact Or.inl (Or.inl (by rw [h]))
        · exact Or.inl (Or.inr (by rw [h]))
      · refine Or.inr (fun z hz hn => ?_)
        obtain ⟨j, hj, e⟩ := hs z (Kn.tr (hk r hrm) (Kn.one (Kn.lt G hr (hk r hrm)) hz hn))
        rw [← e]
        exact ih x y j hx hym hj (h j hj (by rw [Nf_nr hi hrm hj, e]; exact hn))
/-- two rooms from which all is won among the rooms that hang together -/
theorem win_K (G : GW n N) {r0 : Nat} (hr : r0 < n) : ∃ p q t, t ≤ 89 ∧ Kn n N r0 p ∧ Kn n N r0 q ∧ ∀ r, Kn n N r0 r → wc n N t p q r = true := by
  obtain ⟨m, D, f, hD, hk, hi, hs, hd, hN⟩ := row G hr
  have hl : ∀ i, i < m → f i < n := fun i h => Kn.lt G hr (hk i h)
  have hm9 : m ≤ 9 := Nat.le_trans (inj_le hl hi) G.n9
  have hm1 : 1 ≤ m := by omega
  have G' : GW m (Nf N f m) := Nf_GW G hm1 hm9
  have hd' : ∀ i, i < m → pc (Nf N f m i) ≤ D := fun i h => Nat.le_trans (Nf_pc G hl hi h) (hd _ (hk i h))
  have hc : Cnn m (Nf N f m) := by
    intro p h0 hcl i him
    have hK : Kn n N (f 0) (f i) := Kn.tr (Kn.sy G (hk 0 hm1)) (hk i him)
    have hcls : ∀ x y, x < n → y < n → anyB m (fun i => decide (f i = x) && p i) = true → nr N x y = true → anyB m (fun i => decide (f i = y) && p i) = true := by
      intro x y hx hy hp hn
      obtain ⟨a, ha, hap⟩ := anyB_iff.mp hp
      rw [Bool.and_eq_true] at hap
      have e1 := of_decide_eq_true hap.1
      obtain ⟨b, hb, e2⟩ := hs y (Kn.tr (hk a ha) (Kn.one (hl a ha) hy (by rw [e1]; exact hn)))
      refine anyB_iff.mpr ⟨b, hb, ?_⟩
      rw [Bool.and_eq_true]
      exact ⟨decide_eq_true e2, hcl a b ha hb hap.2 (by rw [Nf_nr hi ha hb, e1, e2]; exact hn)⟩
    have h0' : anyB m (fun i => decide (f i = f 0) && p i) = true := anyB_iff.mpr ⟨0, hm1, by rw [Bool.and_eq_true]; exact ⟨decide_eq_true rfl, h0⟩⟩
    have := hK (fun x => anyB m (fun i => decide (f i = x) && p i)) h0' hcls
    obtain ⟨a, ha, hap⟩ := anyB_iff.mp this
    rw [Bool.and_eq_true] at hap
    have := hi a i ha him (of_decide_eq_true hap.1)
    rw [← this]
    exact hap.2
  have hN' : ∀ j, 1 ≤ j → j < m → ((Nf N f m 0).testBit j = true ↔ j ≤ D) := fun j h1 h2 => by
    rw [Nf_tb, decide_eq_true (show 0 < m by omega), decide_eq_true h2, Bool.true_and, Bool.true_and]
    exact hN j h1 h2
  have hD0 : m = 1 ∨ 1 ≤ D := by
    rcases Nat.lt_or_ge D 1 with h | h
    · left
      have hz : ∀ i j, i < m → (Nf N f m i).testBit j = true → False := fun i j h1 h2 => by
        have := pc_pos (G'.lt i) h2
        have := hd' i h1
        omega
      have := hc (fun i => decide (i = 0)) (decide_eq_true rfl) (fun i j h1 h2 h3 h4 => by
        have e0 : i = 0 := of_decide_eq_true h3
        unfold nr at h4
        rcases (Bool.or_eq_true _ _ ▸ h4) with h5 | h5
        · have := of_decide_eq_true h5
          exact decide_eq_true (by omega)
        · exact (hz i j h1 h5).elim) (m - 1) (by omega)
      have := of_decide_eq_true this
      omega
    · exact Or.inr h
  obtain ⟨p, q, t, ht, hp, hq, hw⟩ := win_all G' hD hD0 hd' hc hN'
  refine ⟨f p, f q, t, ht, hk p hp, hk q hq, fun r hrK => ?_⟩
  obtain ⟨j, hj, e⟩ := hs r hrK
  rw [← e]
  exact Nf_wc G hr hm9 hm1 hk hi hs t p q j hp hq hj (hw j hj)
/-- rooms in at most t steps of p -/
def bal (N : Nat → Nat) (p : Nat) : Nat → Nat → Bool
  | 0, x => decide (x = p)
  | t + 1, x => bal N p t x || anyB 9 (fun y => nr N x y && bal N p t y)
theorem bal_succ {p t x : Nat} : bal N p (t + 1) x = true ↔ bal N p t x = true ∨ ∃ y, y < 9 ∧ nr N x y = true ∧ bal N p t y = true := by
  show (bal N p t x || anyB 9 (fun y => nr N x y && bal N p t y)) = true ↔ _
  rw [Bool.or_eq_true, anyB_iff]
  constructor
  · rintro (h | ⟨y, hy, h⟩)
    · exact Or.inl h
    · rw [Bool.and_eq_true] at h
      exact Or.inr ⟨y, hy, h.1, h.2⟩
  · rintro (h | ⟨y, hy, h1, h2⟩)
    · exact Or.inl h
    · exact Or.inr ⟨y, hy, by rw [Bool.and_eq_true]; exact ⟨h1, h2⟩⟩
theorem bal_9 (p : Nat) : ∀ k t, t < 9 → bal N p k t = true → bal N p 9 t = true := by
  refine stab (P := bal N p) (m := 9) (c0 := 0) (fun k t _ h => bal_succ.mpr (Or.inl h)) (fun k h t ht => ?_) (Nat.zero_le _)
  apply bool_eq
  constructor
  · intro h1
    rcases bal_succ.mp h1 with h2 | ⟨y, hy, h2, h3⟩
    · exact h2
    · exact bal_succ.mpr (Or.inr ⟨y, hy, h2, by rw [← h y hy]; exact h3⟩)
  · intro h1
    exact bal_succ.mpr (Or.inl h1)
theorem bal_K (G : GW n N) {p x : Nat} (hp : p < n) (h : Kn n N p x) : bal N p 9 x = true := by
  have h9 := G.n9
  refine h (bal N p 9) ?_ (fun i j hi hj h1 h2 => ?_)
  · exact bal_9 p 0 p (by omega) (show decide (p = p) = true from decide_eq_true rfl)
  · exact bal_9 p 10 j (by omega) (bal_succ.mpr (Or.inr ⟨i, by omega, by rw [nr_symm G]; exact h2, h1⟩))
theorem bal_win (G : GW n N) {r0 p q T : Nat} (hr : r0 < n) (hw : ∀ r, Kn n N r0 r → wc n N T p q r = true) : ∀ t a b, a < n → b < n → bal N p t a = true → bal N q t b = true → ∀ r, Kn n N r0 r → wc n N (T + t) a b r = true
  | 0, a, b, _, _, h1, h2, r, hrK => by
    have e1 : a = p := of_decide_eq_true (show decide (a = p) = true from h1)
    have e2 : b = q := of_decide_eq_true (show decide (b = q) = true from h2)
    rw [e1, e2]
    exact hw r hrK
  | t + 1, a, b, ha, hb, h1, h2, r, hrK => by
    have h9 := G.n9
    have key : ∀ p a, a < n → bal N p (t + 1) a = true → ∃ y, y < n ∧ nr N a y = true ∧ bal N p t y = true := by
      intro p a ha h
      rcases bal_succ.mp h with h | ⟨y, hy, h3, h4⟩
      · exact ⟨a, ha, nr_self N a, h⟩
      · exact ⟨y, nr_lt G ha h3, h3, h4⟩
    obtain ⟨x, hx, hx1, hx2⟩ := key p a ha h1
    obtain ⟨y, hy, hy1, hy2⟩ := key q b hb h2
    show wc n N (T + t + 1) a b r = true
    exact wc_succ.mpr (Or.inr ⟨x, hx, hx1, y, by omega, hy1, rb_iff.mpr (Or.inr (fun z hz hn => bal_win G hr hw t x y hx hy hx2 hy2 z (Kn.tr hrK (Kn.one (Kn.lt G hr hrK) hz hn))))⟩)
theorem win_in (G : GW n N) {a b r : Nat} (hr : r < n) (ha : Kn n N r a) (hb : Kn n N r b) : wc n N 98 a b r = true := by
  obtain ⟨p, q, t, ht, hp, hq, hw⟩ := win_K G hr
  have h1 := bal_K G (Kn.lt G hr hp) (Kn.tr (Kn.sy G hp) ha)
  have h2 := bal_K G (Kn.lt G hr hq) (Kn.tr (Kn.sy G hq) hb)
  exact wc_le (by omega) (bal_win G hr hw 9 a b (Kn.lt G hr ha) (Kn.lt G hr hb) h1 h2 r (Kn.rfl' r))
/-- a cop in another part never comes nearer -/
theorem out_near (G : GW n N) {r b y : Nat} (hr : r < n) (hb : pl n b) (ho : ¬ Kn n N r b) (hn : nr N b y = true) : ¬ Kn n N r y := by
  intro hy
  have h9 := G.n9
  have hyn := Kn.lt G hr hy
  rcases hb with hb | hb
  · exact ho (Kn.tr hy (Kn.one hyn hb (by rw [nr_symm G]; exact hn)))
  · rw [hb] at hn
    have := near9 G hn
    omega
theorem out_both (G : GW n N) : ∀ k a b r, a < n → pl n b → r < n → ¬ Kn n N r a → ¬ Kn n N r b → wc n N k a b r = true → False := by
  have ct : ∀ a b r, ¬ Kn n N r a → ¬ Kn n N r b → (a = r ∨ b = r) → False := fun a b r h1 h2 h => by
    rcases h with h | h
    · exact h1 (by rw [h]; exact Kn.rfl' r)
    · exact h2 (by rw [h]; exact Kn.rfl' r)
  intro k
  induction k with
  | zero =>
    intro a b r _ _ _ h1 h2 h
    exact ct a b r h1 h2 (ct_iff.mp h)
  | succ k ih =>
    intro a b r ha hb hr h1 h2 h
    rcases wc_succ.mp h with h | ⟨x, hx, h3, y, hy, h4, h5⟩
    · exact ct a b r h1 h2 h
    · have o1 := out_near G hr (Or.inl ha) h1 h3
      have o2 := out_near G hr hb h2 h4
      rcases rb_iff.mp h5 with h6 | h6
      · exact ct x y r o1 o2 h6
      · exact ih x y r hx (pl_near G hb h4) hr o1 o2 (h6 r hr (nr_self N r))
theorem out_b (G : GW n N) : ∀ k a b r, a < n → pl n b → r < n → ¬ Kn n N r b → wc n N k a b r = true → wc n N k a 9 r = true := by
  intro k
  induction k with
  | zero =>
    intro a b r _ _ _ h2 h
    rcases ct_iff.mp h with h | h
    · exact wc_caught (Or.inl h)
    · exact (h2 (by rw [h]; exact Kn.rfl' r)).elim
  | succ k ih =>
    intro a b r ha hb hr h2 h
    rcases wc_succ.mp h with h | ⟨x, hx, h3, y, hy, h4, h5⟩
    · rcases h with h | h
      · exact wc_caught (Or.inl h)
      · exact (h2 (by rw [h]; exact Kn.rfl' r)).elim
    · have o2 := out_near G hr hb h2 h4
      refine wc_succ.mpr (Or.inr ⟨x, hx, h3, 9, by decide, nr_self N 9, rb_iff.mpr ?_⟩)
      rcases rb_iff.mp h5 with h6 | h6
      · rcases h6 with h6 | h6
        · exact Or.inl (Or.inl h6)
        · exact (o2 (by rw [h6]; exact Kn.rfl' r)).elim
      · exact Or.inr (fun z hz hn => ih x y z hx (pl_near G hb h4) hz (fun hzy => o2 (Kn.tr (Kn.one hr hz hn) hzy)) (h6 z hz hn))
theorem in_b (G : GW n N) : ∀ k a b r, pl n b → r < n → wc n N k a 9 r = true → wc n N k a b r = true := by
  have h9 := G.n9
  intro k
  induction k with
  | zero =>
    intro a b r _ hr h
    rcases ct_iff.mp h with h | h
    · exact wc_caught (Or.inl h)
    · omega
  | succ k ih =>
    intro a b r hb hr h
    rcases wc_succ.mp h with h | ⟨x, hx, h3, y, hy, h4, h5⟩
    · rcases h with h | h
      · exact wc_caught (Or.inl h)
      · omega
    · have e := near9 G h4
      subst e
      refine wc_succ.mpr (Or.inr ⟨x, hx, h3, b, by have := pl9 h9 hb; omega, nr_self N b, rb_iff.mpr ?_⟩)
      rcases rb_iff.mp h5 with h6 | h6
      · rcases h6 with h6 | h6
        · exact Or.inl (Or.inl h6)
        · omega
      · exact Or.inr (fun z hz hn => ih x b z hb hz (h6 z hz hn))
theorem wc_swap (G : GW n N) : ∀ k a b r, a < n → b < n → wc n N k a b r = true → wc n N k b a r = true := by
  have h9 := G.n9
  intro k
  induction k with
  | zero =>
    intro a b r _ _ h
    exact wc_caught (ct_iff.mp h).symm
  | succ k ih =>
    intro a b r ha hb h
    rcases wc_succ.mp h with h | ⟨x, hx, h3, y, hy, h4, h5⟩
    · exact wc_caught h.symm
    · have hyn := nr_lt G hb h4
      refine wc_succ.mpr (Or.inr ⟨y, hyn, h4, x, by omega, h3, rb_iff.mpr ?_⟩)
      rcases rb_iff.mp h5 with h6 | h6
      · exact Or.inl h6.symm
      · exact Or.inr (fun z hz hn => ih x y z hx hyn (h6 z hz hn))
/-- one cop: at most 81 moves -/
theorem one_81 (G : GW n N) {k a r : Nat} (ha : a < n) (hr : r < n) (h : wc n N k a 9 r = true) : wc n N 81 a 9 r = true := by
  have h9 := G.n9
  have key := stab (P := fun k t => wc n N k (t / 9) 9 (t % 9)) (m := 81) (c0 := 0) (fun k t _ h => wc_step h) (fun k hk t ht => by
    apply bool_eq
    constructor
    · intro h1
      rcases wc_succ.mp h1 with h | ⟨x, hx, h3, y, hy, h4, h5⟩
      · exact wc_caught h
      · have e := near9 G h4
        subst e
        refine wc_succ.mpr (Or.inr ⟨x, hx, h3, 9, hy, h4, rb_iff.mpr ?_⟩)
        rcases rb_iff.mp h5 with h6 | h6
        · exact Or.inl h6
        · refine Or.inr (fun z hz hn => ?_)
          have e1 : wc n N (k + 1) ((x * 9 + z) / 9) 9 ((x * 9 + z) % 9) = wc n N k ((x * 9 + z) / 9) 9 ((x * 9 + z) % 9) := hk (x * 9 + z) (by omega)
          rw [show (x * 9 + z) / 9 = x by omega, show (x * 9 + z) % 9 = z by omega] at e1
          rw [← e1]
          exact h6 z hz hn
    · intro h1
      exact wc_step h1) (Nat.zero_le _)
  have := key k (a * 9 + r) (by omega) (by show wc n N k ((a * 9 + r) / 9) 9 ((a * 9 + r) % 9) = true; rw [show (a * 9 + r) / 9 = a by omega, show (a * 9 + r) % 9 = r by omega]; exact h)
  have h2 : wc n N (81 - 0) ((a * 9 + r) / 9) 9 ((a * 9 + r) % 9) = true := this
  rw [show (a * 9 + r) / 9 = a by omega, show (a * 9 + r) % 9 = r by omega] at h2
  exact h2
theorem cap_all (n : Nat) (N : Nat → Nat) (G : GW n N) : CAP n N := by
  intro k a b r ha hb hr h
  rcases Classical.em (Kn n N r b) with hkb | hkb
  · have hbn := Kn.lt G hr hkb
    rcases Classical.em (Kn n N r a) with hka | hka
    · exact win_in G hr hka hkb
    · have h1 := out_b G k b a r hbn (Or.inl ha) hr hka (wc_swap G k a b r ha hbn h)
      have h2 := in_b G 81 b a r (Or.inl ha) hr (one_81 G hbn hr h1)
      exact wc_le (k := 81) (j := 98) (by decide) (wc_swap G 81 b a r hbn ha h2)
  · rcases Classical.em (Kn n N r a) with hka | hka
    · have h1 := out_b G k a b r ha hb hr hkb h
      exact wc_le (k := 81) (j := 98) (by decide) (in_b G 81 a b r hb hr (one_81 G ha hr h1))
    · exact (out_both G k a b r ha hb hr hka hkb h).elim
end
