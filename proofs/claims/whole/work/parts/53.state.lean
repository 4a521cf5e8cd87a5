/-! THE STATE of class and reference, and what an operation owes. -/
section
abbrev DL : Type := List (Nat × Nat × Nat)
/-- the deeds are sound: (room, other or 9 for a shot, set ahead), the newest first -/
def DVl (n : Nat) : (Nat → Nat) → DL → Prop
  | _, [] => True
  | N, (a, b, s) :: t => a < n ∧ s < 2 ^ n ∧ ((b = 9 ∧ DVl n N t) ∨ (b < n ∧ a ≠ b ∧ DVl n (tog N a b) t))
def CDf (r o s : Nat → Int32) : DL → Prop
  | [] => True
  | (a, b, x) :: t => (r t.length = I a ∧ o t.length = (if b = 9 then -1 else I b) ∧ s t.length = I x) ∧ CDf r o s t
def MDf (o1 o2 ws st : Nat → Int32) : (Nat → Nat) → DL → Prop
  | _, [] => True
  | N, (a, b, x) :: t => st t.length = I x ∧ ((b = 9 ∧ o1 t.length = -1 ∧ MDf o1 o2 ws st N t) ∨ (b ≠ 9 ∧ o1 t.length = I a ∧ o2 t.length = I b ∧ ws t.length = bI ((tog N a b a).testBit b) ∧ MDf o1 o2 ws st (tog N a b) t))
/-- a table that is filled for an older version, or right -/
def cach (x : Int32) (v : Nat) (P : Prop) : Prop := x = -1 ∨ ∃ u, x = I u ∧ u ≤ v ∧ (u = v → P)
theorem cach_new {x : Int32} {v v' : Nat} {P P' : Prop} (h : cach x v P) (hv : v < v') : cach x v' P' := by
  rcases h with h | ⟨u, h1, h2, h3⟩
  · exact Or.inl h
  · exact Or.inr ⟨u, h1, by omega, fun z => by omega⟩
theorem cach_eq {x : Int32} {v : Nat} {P : Prop} (h : cach x v P) (hv : v < 2147483648) (e : x = I v) : P := by
  rcases h with h | ⟨u, h1, h2, h3⟩
  · exact absurd (e.symm.trans h) (I_ne_m1 hv)
  · exact h3 ((I_inj (by omega) hv).mp (h1.symm.trans e))
def CS (w : Wd) (n : Nat) (N : Nat → Nat) (s : Nat) (D : DL) (v : Nat) : Prop := GR w n N ∧ gF w 0 = I s ∧ gF w 2 = I v ∧ gF w 3 = I D.length ∧ CDf (gA w 1) (gA w 2) (gA w 3) D ∧ cach (gF w 4) v (CT w n N) ∧ cach (gF w 5) v (HT w n N) ∧ cach (gF w 7) v (gF w 6 = I (lb n N (2 ^ n)))
def MS (w : Wd) (n : Nat) (N : Nat → Nat) (s : Nat) (D : DL) : Prop := MR w n N ∧ gF w 10 = I s ∧ gF w 11 = I D.length ∧ MDf (gA w 11) (gA w 12) (gA w 13) (gA w 14) N D
def Sim (w : Wd) (n : Nat) (N : Nat → Nat) (s : Nat) (D : DL) (v : Nat) : Prop := GW n N ∧ s < 2 ^ n ∧ D.length ≤ 200 ∧ DVl n N D ∧ CS w n N s D v ∧ MS w n N s D
variable {E : Nat × (Nat → Int32)} {w : Wd} {d n s v : Nat} {N : Nat → Nat} {D : DL} {x y z : Int32}
theorem Sim.gw (S : Sim w n N s D v) : GW n N := S.1
theorem Sim.gr (S : Sim w n N s D v) : GR w n N := S.2.2.2.2.1.1
theorem Sim.mr (S : Sim w n N s D v) : MR w n N := S.2.2.2.2.2.1
theorem Sim.o {u : Int64} (S : Sim w n N s D v) : Sim (so1 u w) n N s D v := S
theorem Sim.t (S : Sim w n N s D v) : Sim (sT w) n N s D v := S
theorem Sim.f8 {u : Int32} (S : Sim w n N s D v) : Sim (sF 8 u w) n N s D v := S
theorem Sim.tw {f g : Nat → Int32} (S : Sim w n N s D v) : Sim (tw f g w) n N s D v := S
theorem Sim.a17 {f g : Nat → Int32} (S : Sim w n N s D v) : Sim (sA 18 f (sA 17 g w)) n N s D v := S
/-- what is left of an operation: the state is sound, few throws, few versions -/
def OUT (w : Wd) (v : Nat) (w2 : Wd) : Prop := ∃ n N s D v', Sim w2 n N s D v' ∧ v' ≤ v + 100 ∧ w2.2.2.2 ≤ w.2.2.2 + 1
/-- the class, behind its wrapper, and the reference agree -/
def AGW (E : Nat × (Nat → Int32)) (w : Wd) (v d kC : Nat) (aC : List Value) (kM : Nat) (aM : List Value) : Prop := ∃ w1 v1 w2 v2, Ev d kC (ent0 kC aC (hp E w)) (.inl (some (.int v1)), hp E w1) ∧ Ev d kM (ent0 kM aM (hp E w1)) (.inl (some (.int v2)), hp E w2) ∧ gF w2 8 = v1 ∧ (v1 = 0 → gO w2 = v2.toInt64) ∧ OUT w v w2
/-- the class without a wrapper -/
def AGQ (E : Nat × (Nat → Int32)) (w : Wd) (v d kC : Nat) (aC : List Value) (kM : Nat) (aM : List Value) : Prop := ∃ w1 v1 w2, Ev d kC (ent0 kC aC (hp E w)) (.inl (some (.int v1)), hp E w1) ∧ Ev d kM (ent0 kM aM (hp E w1)) (.inl (some (.int v1)), hp E w2) ∧ OUT w v w2
theorem gO_so1 {u : Int64} : gO (so1 u w) = u := by
  show vp_updL w.2.2.1 0 u 0 = u
  unfold vp_updL
  simp
theorem Sim.out {w2 : Wd} (S : Sim w2 n N s D v) (h : w2.2.2.2 ≤ w.2.2.2 + 1) : OUT w v w2 := ⟨n, N, s, D, v, S, by omega, h⟩
/-- a throw: the wrapper says c, the reference stops with c -/
theorem agw_throw {kC kM : Nat} {aC aM : List Value} {c : Int32} {v2 : Int32} (S : Sim w n N s D v) (hc : ¬ c = 0) (e1 : Ev d kC (ent0 kC aC (hp E w)) (.inl (some (.int c)), hp E (sT w))) (e2 : Ev d kM (ent0 kM aM (hp E (sT w))) (.inl (some (.int v2)), hp E (sF 8 c (sF 8 0 (sT w))))) : AGW E w v d kC aC kM aM :=
  ⟨_, _, _, _, e1, e2, rfl, fun z => absurd z hc, Sim.out (S.t.f8.f8) (Nat.le_refl _)⟩
-- the class's tables
theorem prep7 (hd : 5 ≤ d) (S : Sim w n N s D v) (C : CAP n N) (hv : v < 2147483648) : ∃ w1, Ev d 7 (ent0 7 [.ref 12, .ref 2] (hp E w)) (.inl none, hp E w1) ∧ Sim w1 n N s D v ∧ CT w1 n N ∧ w1.2.2.2 = w.2.2.2 := by
  have S' := S
  obtain ⟨G, h1, h2, h3, ⟨c1, c2, c3, c4, c5, c6, c7, c8⟩, hM⟩ := S'
  by_cases h : gF w 4 = gF w 2
  · exact ⟨w, p7_e_a (by omega) h, S, cach_eq c6 hv (h.trans c3), rfl⟩
  · obtain ⟨g4, g5, g6, g7, e, hT⟩ := sp7n (E := E) hd c1 G C h
    exact ⟨_, e, ⟨G, h1, h2, h3, ⟨c1, c2, c3, c4, c5, Or.inr ⟨v, c3, Nat.le_refl _, fun _ => hT⟩, c7, c8⟩, hM⟩, hT, rfl⟩
theorem prep1 (hd : 4 ≤ d) (S : Sim w n N s D v) (hv : v < 2147483648) : ∃ w1, Ev d 1 (ent0 1 [.ref 21, .ref 2] (hp E w)) (.inl none, hp E w1) ∧ Sim w1 n N s D v ∧ HT w1 n N ∧ w1.2.2.2 = w.2.2.2 := by
  have S' := S
  obtain ⟨G, h1, h2, h3, ⟨c1, c2, c3, c4, c5, c6, c7, c8⟩, hM⟩ := S'
  by_cases h : gF w 5 = gF w 2
  · exact ⟨w, p1_e_a (by omega) h, S, cach_eq c7 hv (h.trans c3), rfl⟩
  · obtain ⟨f, g, e, hT⟩ := sp1n (E := E) hd c1 G h
    exact ⟨_, e, ⟨G, h1, h2, h3, ⟨c1, c2, c3, c4, c5, c6, Or.inr ⟨v, c3, Nat.le_refl _, fun _ => hT⟩, c8⟩, hM⟩, hT, rfl⟩
theorem prep25 (hd : 4 ≤ d) (S : Sim w n N s D v) (hv : v < 2147483648) : ∃ w1, Ev d 25 (ent0 25 [.ref 26, .ref 2] (hp E w)) (.inl none, hp E w1) ∧ Sim w1 n N s D v ∧ gF w1 6 = I (lb n N (2 ^ n)) ∧ w1.2.2.2 = w.2.2.2 := by
  have S' := S
  obtain ⟨G, h1, h2, h3, ⟨c1, c2, c3, c4, c5, c6, c7, c8⟩, hM⟩ := S'
  by_cases h : gF w 7 = gF w 2
  · exact ⟨w, p25_e_a (by omega) h, S, cach_eq c8 hv (h.trans c3), rfl⟩
  · have e := sp25n (E := E) hd c1 G h
    exact ⟨_, e, ⟨G, h1, h2, h3, ⟨c1, c2, c3, c4, c5, c6, c7, Or.inr ⟨v, c3, Nat.le_refl _, fun _ => rfl⟩⟩, hM⟩, rfl, rfl⟩
end
