/-! THE STATE of the class, and its operations, one contract each. -/
section
abbrev DL : Type := List (Nat × Nat × Nat)
def CDf (r o s : Nat → Int32) : DL → Prop
  | [] => True
  | (a, b, x) :: t => (r t.length = I a ∧ o t.length = (if b = 9 then -1 else I b) ∧ s t.length = I x) ∧ CDf r o s t
/-- a table that is filled for an older version, or right -/
def cach (x : Int32) (v : Nat) (P : Prop) : Prop := x = -1 ∨ ∃ u, x = I u ∧ u ≤ v ∧ (u = v → P)
theorem cach_new {x : Int32} {v v' : Nat} {P P' : Prop} (h : cach x v P) (hv : v < v') : cach x v' P' := by
  rcases h with h | ⟨u, h1, h2, h3⟩
  · exact Or.inl h
  · exact Or.inr ⟨u, h1, by omega, fun z => by omega⟩
theorem cach_eq {x : Int32} {v : Nat} {P : Prop} (h : cach x v P) (hv : v < 2147483648) (e : x = I v) : P := by
  rcases h with h | ⟨u, h1, h2, h3⟩
  · exact absurd (e.symm.trans h) (I_ne_m1 hv)
  · exact h3 ((I_inj (by omega) hv).mp (h1.symm.trans e))
def CS (w : Wd) (n : Nat) (N : Nat → Nat) (s : Nat) (D : DL) (v : Nat) : Prop := GR w n N ∧ gF w 0 = I s ∧ gF w 2 = I v ∧ gF w 3 = I D.length ∧ CDf (gA w 1) (gA w 2) (gA w 3) D ∧ cach (gF w 4) v (CT w n N) ∧ cach (gF w 5) v (HT w n N) ∧ cach (gF w 7) v (gF w 6 = I (lb n N (2 ^ n)))
/-- the state: rooms, doors, the rabbit's set, the deeds (newest first: room, other or 9, the set ahead), the version; no throw came -/
def St (w : Wd) (n : Nat) (N : Nat → Nat) (s : Nat) (D : DL) (v : Nat) : Prop := GW n N ∧ s < 2 ^ n ∧ D.length ≤ 200 ∧ CS w n N s D v ∧ w.2.2.2 = 0
/-- the second cop's place -/
def PB (n : Nat) (x : Int32) (b : Nat) : Prop := (x = -1 ∧ b = 9) ∨ (x = I b ∧ b < n ∧ ¬ x = -1)
variable {E : Nat × (Nat → Int32)} {w : Wd} {d n s v : Nat} {N : Nat → Nat} {D : DL} {x : Int32}
theorem PB.pl {b : Nat} (h : PB n x b) : pl n b := by
  rcases h with ⟨_, h⟩ | ⟨_, h, _⟩
  · exact Or.inr h
  · exact Or.inl h
theorem PB.none : PB n (-1) 9 := Or.inl ⟨rfl, rfl⟩
theorem PB.some {b : Nat} (hn : n ≤ 9) (h : b < n) : PB n (I b) b := Or.inr ⟨rfl, h, I_ne_m1 (by omega)⟩
theorem St.gw (S : St w n N s D v) : GW n N := S.1
theorem St.gr (S : St w n N s D v) : GR w n N := S.2.2.2.1.1
theorem St.cs (S : St w n N s D v) : gF w 0 = I s := S.2.2.2.1.2.1
theorem St.sl (S : St w n N s D v) : s < 2 ^ n := S.2.1
theorem St.cl (S : St w n N s D v) : gF w 3 = I D.length := S.2.2.2.1.2.2.2.1
theorem St.th (S : St w n N s D v) : w.2.2.2 = 0 := S.2.2.2.2
/-! the tables -/
theorem prep7 (hd : 5 ≤ d) (S : St w n N s D v) (C : CAP n N) (hv : v < 2147483648) : ∃ w1, Ev d 7 (ent0 7 [.ref 12, .ref 2] (hp E w)) (.inl none, hp E w1) ∧ St w1 n N s D v ∧ CT w1 n N := by
  obtain ⟨G, h1, h2, ⟨c1, c2, c3, c4, c5, c6, c7, c8⟩, hM⟩ := S
  by_cases h : gF w 4 = gF w 2
  · exact ⟨w, p7_e_a (by omega) h, ⟨G, h1, h2, ⟨c1, c2, c3, c4, c5, c6, c7, c8⟩, hM⟩, cach_eq c6 hv (h.trans c3)⟩
  · obtain ⟨g4, g5, g6, g7, e, hT⟩ := sp7n (E := E) hd c1 G C h
    exact ⟨_, e, ⟨G, h1, h2, ⟨c1, c2, c3, c4, c5, Or.inr ⟨v, c3, Nat.le_refl _, fun _ => hT⟩, c7, c8⟩, hM⟩, hT⟩
theorem prep1 (hd : 4 ≤ d) (S : St w n N s D v) (hv : v < 2147483648) : ∃ w1, Ev d 1 (ent0 1 [.ref 21, .ref 2] (hp E w)) (.inl none, hp E w1) ∧ St w1 n N s D v ∧ HT w1 n N := by
  obtain ⟨G, h1, h2, ⟨c1, c2, c3, c4, c5, c6, c7, c8⟩, hM⟩ := S
  by_cases h : gF w 5 = gF w 2
  · exact ⟨w, p1_e_a (by omega) h, ⟨G, h1, h2, ⟨c1, c2, c3, c4, c5, c6, c7, c8⟩, hM⟩, cach_eq c7 hv (h.trans c3)⟩
  · obtain ⟨f, g, e, hT⟩ := sp1n (E := E) hd c1 G h
    exact ⟨_, e, ⟨G, h1, h2, ⟨c1, c2, c3, c4, c5, c6, Or.inr ⟨v, c3, Nat.le_refl _, fun _ => hT⟩, c8⟩, hM⟩, hT⟩
theorem prep25 (hd : 4 ≤ d) (S : St w n N s D v) (hv : v < 2147483648) : ∃ w1, Ev d 25 (ent0 25 [.ref 26, .ref 2] (hp E w)) (.inl none, hp E w1) ∧ St w1 n N s D v ∧ gF w1 6 = I (lb n N (2 ^ n)) := by
  obtain ⟨G, h1, h2, ⟨c1, c2, c3, c4, c5, c6, c7, c8⟩, hM⟩ := S
  by_cases h : gF w 7 = gF w 2
  · exact ⟨w, p25_e_a (by omega) h, ⟨G, h1, h2, ⟨c1, c2, c3, c4, c5, c6, c7, c8⟩, hM⟩, cach_eq c8 hv (h.trans c3)⟩
  · have e := sp25n (E := E) hd c1 G h
    exact ⟨_, e, ⟨G, h1, h2, ⟨c1, c2, c3, c4, c5, c6, c7, Or.inr ⟨v, c3, Nat.le_refl _, fun _ => rfl⟩⟩, hM⟩, rfl⟩
/-! small ones -/
theorem sp74T {a : Nat} (hd : 1 ≤ d) (hR : GR w n N) (hn : n ≤ 9) (h : a < n) : Ev d 74 (ent0 74 [.ref 1, .int (I a)] (hp E w)) (.inl none, hp E w) := by
  have := sp41 (E := E) (d := d - 1) (x := I a) hR
  rw [isR_I (by omega) hn, decide_eq_true h] at this
  exact p74_e_b hd this (by decide)
theorem sp75T {a b r : Nat} (hd : 2 ≤ d) (hR : GR w n N) (hn : n ≤ 9) (ha : a < n) (hb : PB n x b) (hr : r < n) : Ev d 75 (ent0 75 [.ref 1, .int (I a), .int x, .int (I r)] (hp E w)) (.inl none, hp E w) := by
  rcases hb with ⟨c1, c2⟩ | ⟨c1, c2, c3⟩
  · exact p75_e_f (by omega) (sp74T (by omega) hR hn ha) c1 (sp74T (by omega) hR hn hr)
  · subst c1
    exact p75_e_d (by omega) (sp74T (by omega) hR hn ha) c3 (sp74T (by omega) hR hn c2) (sp74T (by omega) hR hn hr)
theorem sp78 {b : Nat} (h : PB n x b) : Ev d 78 (ent0 78 [.int x] (hp E w)) (.inl (some (.int (I b))), hp E w) := by
  rcases h with ⟨c1, c2⟩ | ⟨c1, c2, c3⟩
  · rw [c2]; exact p78_e_a c1
  · have := p78_e_b (E := E) (w := w) (d := d) c3
    rw [c1] at this ⊢
    exact this
theorem op_time {a b r : Nat} (hd : 8 ≤ d) (S : St w n N s D v) (C : CAP n N) (hv : v < 2147483648) (ha : a < n) (hb : PB n x b) (hr : r < n) : ∃ w1, Ev d 63 (ent0 63 [.ref 1, .int (I a), .int x, .int (I r)] (hp E w)) (.inl (some (.int (tv (tau n N a b r)))), hp E w1) ∧ St w1 n N s D v := by
  obtain ⟨w1, e1, S1, hT⟩ := prep7 (E := E) (d := d - 1) (by omega) S C hv
  exact ⟨w1, p63_e_b (by omega) (sp75T (by omega) S.gr S.gw.n9 ha hb hr) e1 (sp78 hb) (sp16 (by omega) hT S.gw ha hb.pl hr), S1⟩
theorem op_step {a b r : Nat} (hd : 8 ≤ d) (S : St w n N s D v) (C : CAP n N) (hv : v < 2147483648) (ha : a < n) (hb : PB n x b) (hr : r < n) : ∃ w1, Ev d 64 (ent0 64 [.ref 1, .int (I a), .int x, .int (I r)] (hp E w)) (.inl (some (.int (stepV n N a b r))), hp E w1) ∧ St w1 n N s D v := by
  obtain ⟨w1, e1, S1, hT⟩ := prep7 (E := E) (d := d - 1) (by omega) S C hv
  exact ⟨w1, p64_e_b (by omega) (sp75T (by omega) S.gr S.gw.n9 ha hb hr) e1 (sp78 hb) (sp18 (by omega) S1.gr hT S.gw ha hb.pl hr), S1⟩
theorem op_away {a b r : Nat} (hd : 8 ≤ d) (S : St w n N s D v) (C : CAP n N) (hv : v < 2147483648) (ha : a < n) (hb : PB n x b) (hr : r < n) : ∃ w1, Ev d 65 (ent0 65 [.ref 1, .int (I a), .int x, .int (I r)] (hp E w)) (.inl (some (.int (awayV n N a b r))), hp E w1) ∧ St w1 n N s D v := by
  obtain ⟨w1, e1, S1, hT⟩ := prep7 (E := E) (d := d - 1) (by omega) S C hv
  exact ⟨w1, p65_e_b (by omega) (sp75T (by omega) S.gr S.gw.n9 ha hb hr) e1 (sp78 hb) (sp20 (by omega) S1.gr hT S.gw ha hb.pl hr), S1⟩
theorem op_one (hd : 8 ≤ d) (S : St w n N s D v) (C : CAP n N) (hv : v < 2147483648) : ∃ w1, Ev d 66 (ent0 66 [.ref 1, .int (1 : Int32)] (hp E w)) (.inl (some (.int (bI (cfB n N 9)))), hp E w1) ∧ St w1 n N s D v := by
  obtain ⟨w1, e1, S1, hT⟩ := prep7 (E := E) (d := d - 1) (by omega) S C hv
  exact ⟨w1, p66_e_b (by omega) (by decide) (by decide) e1 rfl (sp21 (by omega) S1.gr hT S.gw) (bI_and _), S1⟩
theorem op_two (hd : 8 ≤ d) (S : St w n N s D v) (C : CAP n N) (hv : v < 2147483648) : ∃ w1, Ev d 66 (ent0 66 [.ref 1, .int (2 : Int32)] (hp E w)) (.inl (some (.int (bI (twB n N)))), hp E w1) ∧ St w1 n N s D v := by
  obtain ⟨w1, e1, S1, hT⟩ := prep7 (E := E) (d := d - 1) (by omega) S C hv
  exact ⟨w1, p66_e_c (by omega) (by decide) (by decide) e1 (by decide) (sp22 (by omega) S1.gr hT S.gw) (bI_and _), S1⟩
theorem op_falls (hd : 8 ≤ d) (S : St w n N s D v) : Ev d 67 (ent0 67 [.ref 1] (hp E w)) (.inl (some (.int (bI (faB n N)))), hp E w) :=
  p67_e_a (by omega) (sp51 (by omega) S.gr S.gw) (bI_and _)
theorem op_hunt (hd : 8 ≤ d) (S : St w n N s D v) (hvv : v < 2147483648) : ∃ w1, Ev d 69 (ent0 69 [.ref 1] (hp E w)) (.inl (some (.int (hv n N s))), hp E w1) ∧ St w1 n N s D v := by
  obtain ⟨w1, e1, S1, hT⟩ := prep1 (E := E) (d := d - 1) (by omega) S hvv
  exact ⟨w1, p69_e_a (by omega) e1 S1.cs (sp4 (by omega) hT S.gw S.sl), S1⟩
theorem op_aim (hd : 8 ≤ d) (S : St w n N s D v) (hv : v < 2147483648) : ∃ w1, Ev d 70 (ent0 70 [.ref 1] (hp E w)) (.inl (some (.int (aimV n N s))), hp E w1) ∧ St w1 n N s D v := by
  obtain ⟨w1, e1, S1, hT⟩ := prep1 (E := E) (d := d - 1) (by omega) S hv
  exact ⟨w1, p70_e_a (by omega) e1 S1.cs (sp5 (by omega) S1.gr hT S.gw S.sl), S1⟩
theorem op_least (hd : 8 ≤ d) (S : St w n N s D v) (hv : v < 2147483648) : ∃ w1, Ev d 72 (ent0 72 [.ref 1] (hp E w)) (.inl (some (.int (I (lb n N (2 ^ n))))), hp E w1) ∧ St w1 n N s D v := by
  obtain ⟨w1, e1, S1, hT⟩ := prep25 (E := E) (d := d - 1) (by omega) S hv
  exact ⟨w1, p72_e_a (by omega) e1 hT, S1⟩
theorem isS_I {b : Nat} (hn : n ≤ 9) (h : b < 2 ^ n) : isS n (I b) = true := by
  have h5 := two_pow_le hn
  unfold isS
  rw [show decide (I b < 0) = false from decide_eq_false (I_nneg (by omega)), show decide (I (2 ^ n - 1) < I b) = false from decide_eq_false (fun z => by have := (I_lt (by omega) (by omega)).mp z; omega)]
  rfl
theorem op_forced {b : Nat} (hd : 8 ≤ d) (S : St w n N s D v) (hb : b < 2 ^ n) : Ev d 71 (ent0 71 [.ref 1, .int (I b)] (hp E w)) (.inl (some (.int (I (lst n N b)))), hp E w) :=
  p71_e_b (by omega) (sp76T (by omega) S.gr S.gw (isS_I S.gw.n9 hb)) (sp27 (by omega) S.gr S.gw hb)
/-! deeds -/
theorem CDf_upd {r o q r' o' q' : Nat → Int32} : ∀ {D : DL}, (∀ i, i < D.length → r' i = r i ∧ o' i = o i ∧ q' i = q i) → CDf r o q D → CDf r' o' q' D
  | [], _, _ => trivial
  | (a, b, x) :: t, h, hC => by
    obtain ⟨⟨h1, h2, h3⟩, h4⟩ := hC
    obtain ⟨g1, g2, g3⟩ := h t.length (Nat.lt_succ_self _)
    refine ⟨⟨g1.trans h1, g2.trans h2, g3.trans h3⟩, CDf_upd (fun i hi => h i (Nat.lt_succ_of_lt hi)) h4⟩
theorem upd_low {f : Nat → Int32} {k i : Nat} {u : Int32} (h : i < k) : upd f k u i = f i := by rw [upd_ap, if_neg (by omega)]
theorem upd_at {f : Nat → Int32} {k : Nat} {u : Int32} : upd f k u k = u := by rw [upd_ap, if_pos rfl]
/-- a deed kept -/
def cad (k : Nat) (x y z : Int32) (w : Wd) : Wd := sF 3 (I (k + 1)) (sA 3 (upd (gA w 3) k z) (sA 2 (upd (gA w 2) k y) (sA 1 (upd (gA w 1) k x) w)))
theorem sp32 {k : Nat} {x y z : Int32} (hd : 1 ≤ d) (hk : gF w 3 = I k) (h : k < 200) : Ev d 32 (ent0 32 [.ref 5, .int x, .int y, .int z] (hp E w)) (.inl none, hp E (cad k x y z w)) := by
  refine p32_e_a (j1 := k) (j2 := k) (j3 := k) hd (by rw [hk]; exact (I_lt (b := 200) (by omega) (by omega)).mpr h) hk (by omega) hk (by omega) hk (by omega) ?_
  rw [rp_in h, rp_in h, rp_in h]
  unfold cad
  rw [← I_add k 1, ← hk]
  rfl
theorem sp77T {k : Nat} (hd : 1 ≤ d) (hk : gF w 3 = I k) (h : k < 200) : Ev d 77 (ent0 77 [.ref 1] (hp E w)) (.inl none, hp E w) :=
  p77_e_b hd (by rw [hk]; exact (I_lt (b := 200) (by omega) (by omega)).mpr h)
theorem CD_cons {r o q : Nat → Int32} {a b x : Nat} (h : CDf r o q D) : CDf (upd r D.length (I a)) (upd o D.length (if b = 9 then -1 else I b)) (upd q D.length (I x)) ((a, b, x) :: D) :=
  ⟨⟨upd_at, upd_at, upd_at⟩, CDf_upd (fun _ hi => ⟨upd_low hi, upd_low hi, upd_low hi⟩) h⟩
theorem op_shoot {a : Nat} (hd : 8 ≤ d) (S : St w n N s D v) (ha : a < n) (hs0 : s ≠ 0) (hll : D.length < 200) : ∃ w1 x1, Ev d 61 (ent0 61 [.ref 1, .int (I a)] (hp E w)) (.inl (some (.int x1)), hp E w1) ∧ St w1 n N (bh n N s a) ((a, 9, s) :: D) v := by
  have hn := S.gw.n9
  have h512 := two_pow_le hn
  have hsl := S.sl
  have c1 : ¬ gF w 0 = 0 := by rw [S.cs]; exact fun z => hs0 ((I_inj (b := 0) (by omega) (by decide)).mp z)
  obtain ⟨G, hs, hl2, ⟨k1, k2, k3, k4, k5, k6, k7, k8⟩, ht⟩ := S
  have e1 := p61_e_d (E := E) (d := d) (by omega) (sp74T (by omega) k1 hn ha) c1 (sp77T (by omega) k4 hll) k2 (sp32 (x := I a) (y := -1) (z := I s) (by omega) k4 hll) k2 (sp50 (n := n) (N := N) (by omega) (by exact k1) G (by omega) (by omega)) rfl rfl
  refine ⟨_, _, e1, G, nts_lt G _, by show D.length + 1 ≤ 200; omega, ⟨k1, rfl, k3, rfl, ?_, k6, k7, k8⟩, ht⟩
  exact CD_cons (a := a) (b := 9) (x := s) k5
theorem sp34 {k : Nat} (hd : 1 ≤ d) (hk : gF w 3 = I (k + 1)) (h : k < 200) : Ev d 34 (ent0 34 [.ref 5] (hp E w)) (.inl (some (.int (gA w 2 k))), hp E w) :=
  p34_e_a hd (by rw [hk]; exact I_sub (b := 1) (by omega)) (by omega) (rv_in h)
theorem sp35 {k : Nat} (hd : 1 ≤ d) (hk : gF w 3 = I (k + 1)) (h : k < 200) : Ev d 35 (ent0 35 [.ref 5] (hp E w)) (.inl (some (.int (gA w 3 k))), hp E w) :=
  p35_e_a hd (by rw [hk]; exact I_sub (b := 1) (by omega)) (by omega) (rv_in h)
theorem sp36 {k : Nat} (hk : gF w 3 = I (k + 1)) (h : k < 200) : Ev d 36 (ent0 36 [.ref 5] (hp E w)) (.inl none, hp E (sF 3 (I k) w)) :=
  p36_e_a (by rw [hk]; exact (I_lt (a := 0) (by omega) (by omega)).mpr (by omega)) (by rw [hk, show I (k + 1) - (1 : Int32) = I k from I_sub (b := 1) (by omega)])
theorem I_pos_ne {k : Nat} (h : k < 1000) : ¬ I (k + 1) = 0 := fun z => by have := (I_inj (b := 0) (by omega) (by decide)).mp z; omega
/-- a shot taken back -/
theorem op_back {a s0 : Nat} (hd : 8 ≤ d) (S : St w n N s ((a, 9, s0) :: D) v) (hs0 : s0 < 2 ^ n) : ∃ w1 x1, Ev d 62 (ent0 62 [.ref 1] (hp E w)) (.inl (some (.int x1)), hp E w1) ∧ St w1 n N s0 D v := by
  obtain ⟨G, hs, hl, ⟨k1, k2, k3, k4, ⟨⟨r1, r2, r3⟩, k5⟩, k6, k7, k8⟩, ht⟩ := S
  have hlt : D.length + 1 ≤ 200 := hl
  have k4' : gF w 3 = I (D.length + 1) := k4
  have c1 : ¬ gF w 3 = 0 := by rw [k4']; exact I_pos_ne (by omega)
  rw [if_pos rfl] at r2
  have e1 := p62_e_c (E := E) (d := d) (by omega) c1 (sp34 (by omega) k4' (by omega)) r2 (sp35 (by omega) k4' (by omega)) (sp36 (by exact k4') (by omega)) rfl
  exact ⟨_, _, e1, G, hs0, by omega, ⟨k1, r3, k3, rfl, k5, k6, k7, k8⟩, ht⟩
/-! doors -/
theorem op_door {a b : Nat} {is : Bool} (hd : 8 ≤ d) (S : St w n N (2 ^ n - 1) D v) (ha : a < n) (hb : b < n) (hab : a ≠ b) (hll : D.length < 200) : ∃ w1 x1 N1 D1 v1, Ev d 60 (ent0 60 [.ref 1, .int (I a), .int (I b), .int (bI is)] (hp E w)) (.inl (some (.int x1)), hp E w1) ∧ St w1 n N1 (2 ^ n - 1) D1 v1 ∧ D1.length ≤ D.length + 1 ∧ v1 ≤ v + 1 := by
  have hn := S.gw.n9
  have hxy : ¬ I a = I b := fun z => hab ((I_inj (by omega) (by omega)).mp z)
  have q44 := sp44 (E := E) (w := w) (d := d - 1) (a := a) (b := b) (by omega) S.gr S.gw (by omega) (by omega)
  by_cases hbi : (N a).testBit b = is
  · exact ⟨w, _, N, D, v, p60_e_f (x3 := bI is) (by omega) (sp74T (by omega) S.gr hn ha) (sp74T (by omega) S.gr hn hb) hxy q44 (by rw [hbi]) (bI_and _), S, by omega, by omega⟩
  · have hne : ¬ bI ((N a).testBit b) = bI is := by
      intro z
      apply hbi
      cases h1 : (N a).testBit b <;> cases is <;> rw [h1] at z <;> first | rfl | exact absurd z (by decide)
    obtain ⟨G, hs, hl2, ⟨k1, k2, k3, k4, k5, k6, k7, k8⟩, ht⟩ := S
    have hG' := GW_tog G hab ha hb
    have k1' : GR (td a b (cad D.length (I a) (I b) (I (2 ^ n - 1)) w)) n (tog N a b) := GR_td (w := cad D.length (I a) (I b) (I (2 ^ n - 1)) w) (by exact k1) hab (show a < 9 by omega) (show b < 9 by omega)
    have kv : gF w 2 + 1 = I (v + 1) := by rw [k3]; exact I_add v 1
    have e1 := p60_e_e (E := E) (d := d) (x3 := bI is) (by omega) (sp74T (by omega) k1 hn ha) (sp74T (by omega) k1 hn hb) hxy q44 hne (sp77T (by omega) k4 hll) k2 (sp32 (x := I a) (y := I b) (z := I (2 ^ n - 1)) (by omega) k4 hll) (sp45 (by omega) (show a < 9 by omega) (show b < 9 by omega)) (sp42 k1' hG') rfl (bI_and _)
    refine ⟨_, _, tog N a b, (a, b, 2 ^ n - 1) :: D, v + 1, e1, ⟨hG', hs, hll, ⟨k1', rfl, kv, rfl, ?_, cach_new k6 (Nat.lt_succ_self _), cach_new k7 (Nat.lt_succ_self _), cach_new k8 (Nat.lt_succ_self _)⟩, ht⟩, Nat.le_refl _, Nat.le_refl _⟩
    have := CD_cons (a := a) (b := b) (x := 2 ^ n - 1) k5
    rw [if_neg (show ¬ b = 9 by omega)] at this
    exact this
/-! a new graph -/
theorem GW_zero {m : Nat} (h1 : 1 ≤ m) (h9 : m ≤ 9) : GW m (fun _ => 0) :=
  ⟨h1, h9, fun _ => Nat.two_pow_pos m, fun _ _ => rfl, fun _ _ => by simp, fun _ => by simp⟩
theorem rv_ra (f : Nat → Int32) (r : Nat) : rv 9 (ra 9 f 0) r = I 0 := by
  unfold rv ra
  split <;> rfl
def cbg (m : Nat) (w : Wd) : Wd := sF 2 (gF w 2 + 1) (sA 0 (ra 9 (gA w 0) 0) (sF 1 (I m) w))
theorem sp38 {m : Nat} (hd : 1 ≤ d) (h1 : 1 ≤ m) (h9 : m ≤ 9) : Ev d 38 (ent0 38 [.ref 2, .int (I m)] (hp E w)) (.inl none, hp E (cbg m w)) := by
  refine p38_e_a hd ?_
  have e1 : (if (9 : Int32) < I m then (9 : Int32) else I m) = I m := if_neg (fun z => by have := (I_lt (a := 9) (by omega) (by omega)).mp z; omega)
  have e2 : (if (1 : Int32) < I m then I m else (1 : Int32)) = I m := by
    by_cases h : (1 : Int32) < I m
    · rw [if_pos h]
    · rw [if_neg h]
      have : ¬ 1 < m := fun z => h ((I_lt (a := 1) (by omega) (by omega)).mpr z)
      rw [show m = 1 by omega]; rfl
  rw [e1, e2]
  rfl
theorem GR_cbg {m : Nat} : GR (cbg m w) m (fun _ => 0) := ⟨rfl, fun r => rv_ra _ r⟩
theorem sp73 {m : Nat} {N : Nat → Nat} (hd : 1 ≤ d) (hR : GR w m N) (G : GW m N) : Ev d 73 (ent0 73 [.ref 1] (hp E w)) (.inl none, hp E (sF 0 (I (2 ^ m - 1)) (sF 3 0 w))) :=
  p73_e_a hd (p31_e_a rfl) (sp42 (w := sF 3 0 w) (by exact hR) G) rfl
theorem op_rooms {m : Nat} (hd : 8 ≤ d) (S : St w n N s D v) (h1 : 1 ≤ m) (hm : m ≤ 9) : ∃ w1 x1, Ev d 59 (ent0 59 [.ref 1, .int (I m)] (hp E w)) (.inl (some (.int x1)), hp E w1) ∧ St w1 m (fun _ => 0) (2 ^ m - 1) [] (v + 1) := by
  obtain ⟨G, hs, hl2, ⟨k1, k2, k3, k4, k5, k6, k7, k8⟩, ht⟩ := S
  have hG := GW_zero h1 hm
  have x1 : ¬ I m < 1 := fun z => by have := (I_lt (b := 1) (by omega) (by omega)).mp z; omega
  have x9 : ¬ (9 : Int32) < I m := fun z => by have := (I_lt (a := 9) (by omega) (by omega)).mp z; omega
  have e1 := p59_e_b (E := E) (d := d) (by omega) x1 x9 (sp38 (w := w) (by omega) h1 hm) (sp73 (by omega) GR_cbg hG) k1.1
  generalize hW : sF 0 (I (2 ^ m - 1)) (sF 3 0 (cbg m w)) = W at e1
  have hp := Nat.two_pow_pos m
  refine ⟨_, _, e1, hG, by omega, Nat.zero_le _, ⟨?_, ?_, ?_, ?_, trivial, ?_, ?_, ?_⟩, ?_⟩
  · rw [← hW]; exact GR_cbg (w := w)
  · rw [← hW]; rfl
  · rw [← hW]; show gF w 2 + 1 = I (v + 1); rw [k3]; exact I_add v 1
  · rw [← hW]; rfl
  · rw [← hW]; exact cach_new k6 (Nat.lt_succ_self _)
  · rw [← hW]; exact cach_new k7 (Nat.lt_succ_self _)
  · rw [← hW]; exact cach_new k8 (Nat.lt_succ_self _)
  · rw [← hW]; exact ht
end
