/-! THE DEEDS: shoot, back. -/
section
variable {E : Nat × (Nat → Int32)} {w : Wd} {d n s v : Nat} {N : Nat → Nat} {D : DL} {x y z t : Int32}
theorem CDf_upd {r o q r' o' q' : Nat → Int32} : ∀ {D : DL}, (∀ i, i < D.length → r' i = r i ∧ o' i = o i ∧ q' i = q i) → CDf r o q D → CDf r' o' q' D
  | [], _, _ => trivial
  | (a, b, x) :: t, h, hC => by
    obtain ⟨⟨h1, h2, h3⟩, h4⟩ := hC
    obtain ⟨g1, g2, g3⟩ := h t.length (Nat.lt_succ_self _)
    refine ⟨⟨g1.trans h1, g2.trans h2, g3.trans h3⟩, CDf_upd (fun i hi => h i (Nat.lt_succ_of_lt hi)) h4⟩
theorem MDf_upd {r o q p r' o' q' p' : Nat → Int32} : ∀ {D : DL} {N : Nat → Nat}, (∀ i, i < D.length → r' i = r i ∧ o' i = o i ∧ q' i = q i ∧ p' i = p i) → MDf r o q p N D → MDf r' o' q' p' N D
  | [], _, _, _ => trivial
  | (a, b, x) :: t, N, h, hC => by
    obtain ⟨h1, h2⟩ := hC
    obtain ⟨g1, g2, g3, g4⟩ := h t.length (Nat.lt_succ_self _)
    refine ⟨g4.trans h1, ?_⟩
    rcases h2 with ⟨c1, c2, c3⟩ | ⟨c1, c2, c3, c4, c5⟩
    · exact Or.inl ⟨c1, g1.trans c2, MDf_upd (fun i hi => h i (Nat.lt_succ_of_lt hi)) c3⟩
    · exact Or.inr ⟨c1, g1.trans c2, g2.trans c3, g3.trans c4, MDf_upd (fun i hi => h i (Nat.lt_succ_of_lt hi)) c5⟩
theorem upd_low {f : Nat → Int32} {k i : Nat} {u : Int32} (h : i < k) : upd f k u i = f i := by rw [upd_ap, if_neg (by omega)]
theorem upd_at {f : Nat → Int32} {k : Nat} {u : Int32} : upd f k u k = u := by rw [upd_ap, if_pos rfl]
/-- a deed kept by the class -/
def cad (k : Nat) (x y z : Int32) (w : Wd) : Wd := sF 3 (I (k + 1)) (sA 3 (upd (gA w 3) k z) (sA 2 (upd (gA w 2) k y) (sA 1 (upd (gA w 1) k x) w)))
theorem sp33 {k : Nat} (hd : 1 ≤ d) (hk : gF w 3 = I k) (h : k < 200) : Ev d 33 (ent0 33 [.ref 5, .int x, .int y, .int z] (hp E w)) (.inl none, hp E (cad k x y z w)) := by
  refine p33_e_a (j1 := k) (j2 := k) (j3 := k) hd (by rw [hk]; exact (I_lt (b := 200) (by omega) (by omega)).mpr h) hk (by omega) hk (by omega) hk (by omega) ?_
  rw [rp_in h, rp_in h, rp_in h]
  unfold cad
  rw [← I_add k 1, ← hk]
  rfl
/-- a deed kept by the reference -/
def mad (k : Nat) (x y z u : Int32) (w : Wd) : Wd := sF 11 (I (k + 1)) (sA 14 (upd (gA w 14) k u) (sA 13 (upd (gA w 13) k z) (sA 12 (upd (gA w 12) k y) (sA 11 (upd (gA w 11) k x) w))))
theorem sp106 {k : Nat} {u : Int32} (hk : gF w 11 = I k) (hu : gF w 10 = u) (h : k < 200) : Ev d 106 (ent0 106 [.ref 27, .int x, .int y, .int z] (hp E w)) (.inl none, hp E (mad k x y z u w)) := by
  refine p106_e_a (j1 := k) (j2 := k) (j3 := k) (j4 := k) hk h hk h hk h hk h ?_
  unfold mad
  rw [← I_add k 1, ← hk, ← hu]
  rfl
theorem sp93T {k : Nat} (hd : 1 ≤ d) (hk : gF w 3 = I k) (h : k < 200) : Ev d 93 (ent0 93 [.ref 1] (hp E w)) (.inl none, hp E w) :=
  p93_e_b hd (by rw [hk]; exact (I_lt (b := 200) (by omega) (by omega)).mpr h)
theorem sp93F {k : Nat} (hd : 1 ≤ d) (hk : gF w 3 = I k) (h : k = 200) : Ev d 93 (ent0 93 [.ref 1] (hp E w)) (.inr 1, hp E (sT w)) :=
  p93_e_a hd (by rw [hk, h]; decide) rfl
theorem CD_cons {r o q : Nat → Int32} {a b x : Nat} (h : CDf r o q D) : CDf (upd r D.length (I a)) (upd o D.length (if b = 9 then -1 else I b)) (upd q D.length (I x)) ((a, b, x) :: D) :=
  ⟨⟨upd_at, upd_at, upd_at⟩, CDf_upd (fun _ hi => ⟨upd_low hi, upd_low hi, upd_low hi⟩) h⟩
theorem Sim.cl (S : Sim w n N s D v) : gF w 3 = I D.length := S.2.2.2.2.1.2.2.2.1
theorem Sim.ml (S : Sim w n N s D v) : gF w 11 = I D.length := S.2.2.2.2.2.2.2.1
theorem op_shoot (hd : 40 ≤ d) (S : Sim w n N s D v) : AGW E w v d 142 [.ref 1, .int x, .ref 37] 109 [.ref 27, .int x] := by
  have h9 := fun u => sp98 (E := E) (w := sF 8 0 u) (d := d - 1) (n := n) (N := N) (x := x)
  have hn := S.gw.n9
  have h512 := two_pow_le hn
  have hsl := S.sl
  cases hq : isR n x with
  | false =>
    have h9 := h9 (sT w) S.mr
    rw [hq] at h9
    exact agw_throw S (by decide) (p142_e_b (by omega) (p72_e_a (by omega) (sp90F (by omega) S.gr hq))) (p109_e_a (by omega) h9 rfl sp97)
  | true =>
    by_cases hs0 : s = 0
    · have h9 := h9 (sT w) S.mr
      rw [hq] at h9
      have c1 : gF w 0 = 0 := by rw [S.cs, hs0]; rfl
      have c2 : gF w 10 = 0 := by rw [S.ms, hs0]; rfl
      exact agw_throw S (by decide) (p142_e_a (by omega) (p72_e_b (by omega) (sp90T (by omega) S.gr hq) c1 rfl)) (p109_e_d (by omega) h9 (by decide) c2 sp97)
    · have c1 : ¬ gF w 0 = 0 := by rw [S.cs]; exact fun z => hs0 ((I_inj (b := 0) (by omega) (by decide)).mp z)
      have c2 : ¬ gF w 10 = 0 := by rw [S.ms]; exact fun z => hs0 ((I_inj (b := 0) (by omega) (by decide)).mp z)
      by_cases hl : D.length = 200
      · have h9 := h9 (sT w) S.mr
        rw [hq] at h9
        exact agw_throw S (by decide) (p142_e_a (by omega) (p72_e_c (by omega) (sp90T (by omega) S.gr hq) c1 (sp93F (by omega) S.cl hl))) (p109_e_b (by omega) h9 (by decide) c2 (by show gF w 11 = 200; rw [S.ml, hl]; rfl) sp97)
      · have hll : D.length < 200 := by have := S.2.2.1; omega
        obtain ⟨a, ha, rfl⟩ := isR_ex hq hn
        have S' := S
        obtain ⟨G, hs, hl2, hD, ⟨k1, k2, k3, k4, k5, k6, k7, k8⟩, ⟨m1, m2, m3, m4⟩⟩ := S'
        have e1 := p142_e_c (E := E) (d := d) (by omega) (p72_e_d (by omega) (sp90T (by omega) k1 hq) c1 (sp93T (by omega) k4 hll) k2 (sp33 (x := I a) (y := -1) (z := I s) (by omega) k4 hll) k2 (sp54 (n := n) (N := N) (by omega) (by exact k1) G (by omega) (by omega)) rfl rfl) rfl
        have h9 := h9 (so1 (I (nts n N (nd s (2 ^ a)))).toInt64 (sF 0 (I (nts n N (nd s (2 ^ a)))) (cad D.length (I a) (-1) (I s) w))) m1
        rw [hq] at h9
        have e2 := p109_e_c (E := E) (d := d) (by omega) h9 (by decide) c2 (by show ¬ gF w 11 = 200; rw [m3]; exact fun z => hl ((I_inj (b := 200) (by omega) (by decide)).mp z)) (sp106 (x := -1) (y := I a) (z := 0) (u := I s) m3 m2 hll) m2 (sp108 (n := n) (N := N) (by exact m1) G (by omega) (by omega)) rfl rfl
        refine ⟨_, _, _, _, e1, e2, rfl, fun _ => gO_so1, n, N, nts n N (nd s (2 ^ a)), (a, 9, s) :: D, v, ⟨G, nts_lt G _, by show D.length + 1 ≤ 200; omega, ⟨ha, hs, Or.inl ⟨rfl, hD⟩⟩, ⟨k1, rfl, k3, rfl, ?_, k6, k7, k8⟩, ⟨m1, rfl, rfl, ?_⟩⟩, by omega, Nat.le_succ _⟩
        · exact CD_cons (a := a) (b := 9) (x := s) k5
        · exact ⟨upd_at, Or.inl ⟨rfl, upd_at, MDf_upd (fun _ hi => ⟨upd_low hi, upd_low hi, upd_low hi, upd_low hi⟩) m4⟩⟩
end
