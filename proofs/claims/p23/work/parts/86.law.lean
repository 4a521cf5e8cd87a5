/-! THE LAW, from the end: the least blue set, the shots taken back, the hunt. -/
section
/-- from here the law comes to its end, with 1, and no throw came -/
def GD (E : Nat × (Nat → Int32)) (d pc : Nat) (L : List Value) (w : Wd) : Prop := ∃ w2 : Wd, w2.2.2.2 = 0 ∧ Ev d 83 (pc, L, [], hp E w) (.inl (some (.int 1)), hp E w2)
variable {E : Nat × (Nat → Int32)} {w : Wd} {d n s v : Nat} {N : Nat → Nat} {D : DL}
theorem GD.by {pc pc1 : Nat} {L L1 : List Value} {w1 : Wd} (f : ∀ o, Ev d 83 (pc1, L1, [], hp E w1) o → Ev d 83 (pc, L, [], hp E w) o) (k : GD E d pc1 L1 w1) : GD E d pc L w := by
  obtain ⟨w2, h2, e⟩ := k
  exact ⟨w2, h2, f _ e⟩
theorem lw_711 (hd : 9 ≤ d) {x2 x3 x4 x5 x6 x7 x8 : Int32} {u9 u10 u11 u12 u13 u14 u15 u16 u17 u18 u19 : Value} (K : ∀ {u8 : Value}, GD E d 637 [.ref 0, .ref 1, .int x2, .int x3, .int x4, .int x5, .int x6, .int (x7 + 1), u8, u9, u10, u11, u12, u13, u14, u15, u16, u17, u18, u19] w) : GD E d 711 [.ref 0, .ref 1, .int x2, .int x3, .int x4, .int x5, .int x6, .int x7, .int x8, u9, u10, u11, u12, u13, u14, u15, u16, u17, u18, u19] w :=
  GD.by (fun _ e => p83_711_a rfl e) K
theorem lw_679 (hd : 9 ≤ d) (hE : E.1 ≤ 260) (S : St w n N s D v) {x2 x3 x4 x5 x8 : Int32} {t : Nat} (ht : t < 2 ^ n) (hl : lst n N t ≠ 2 ^ n - 1) {u9 u10 u11 u12 u13 u14 u15 u16 u17 u18 u19 : Value} (K : GD E d 711 [.ref 0, .ref 1, .int x2, .int x3, .int x4, .int x5, .int (I (2 ^ n - 1)), .int (I t), .int x8, u9, u10, u11, u12, u13, u14, u15, u16, u17, u18, u19] w) : GD E d 679 [.ref 0, .ref 1, .int x2, .int x3, .int x4, .int x5, .int (I (2 ^ n - 1)), .int (I t), .int x8, u9, u10, u11, u12, u13, u14, u15, u16, u17, u18, u19] w := by
  have h512 := two_pow_le S.gw.n9
  have hll := lst_lt (n := n) (N := N) S.gw ht
  obtain ⟨xc, ec⟩ := op_cell (E := E) (w := w) (d := d - 1) (k := 30 + t) hE (by omega)
  obtain ⟨m, hm, em⟩ := and_nn xc
  have ea := op_at (E := E) (w := w) (d := d - 1) (m := m) (k := 3) hm (by omega) (by omega)
  by_cases h0 : I (m / 2 % 3) = 0
  · refine GD.by (fun _ e => p83_679_b (by omega) (I_add 30 t) ec em ea h0 (op_forced (by omega) S ht) (fun z => hl ((I_inj (by omega) (by omega)).mp z)) e) K
  · exact GD.by (fun _ e => p83_679_c (by omega) (I_add 30 t) ec em ea h0 e) K
theorem lw_637 (hd : 9 ≤ d) (hE : E.1 ≤ 260) (S : St w n N s D v) {x3 x4 : Int32} : ∀ (m t : Nat), t + m = 2 ^ n → ∀ {u8 u9 u10 u11 u12 u13 u14 u15 u16 u17 u18 u19 : Value}, GD E d 637 [.ref 0, .ref 1, .int (I n), .int x3, .int x4, .int (I (lb n N (2 ^ n))), .int (I (2 ^ n - 1)), .int (I t), u8, u9, u10, u11, u12, u13, u14, u15, u16, u17, u18, u19] w
  | 0, t, ht, u8, u9, u10, u11, u12, u13, u14, u15, u16, u17, u18, u19 => by
    have h9 := S.gw.n9
    have h512 := two_pow_le h9
    have e : t = 2 ^ n := by omega
    subst e
    exact ⟨w, S.th, p83_637_e (by
      rw [I_pow (by omega)]
      exact fun z => Nat.lt_irrefl _ ((I_lt (by omega) (by omega)).mp z))⟩
  | m + 1, t, ht, u8, u9, u10, u11, u12, u13, u14, u15, u16, u17, u18, u19 => by
    have h9 := S.gw.n9
    have h512 := two_pow_le h9
    have hlb := lb_lt n N (Nat.le_refl (2 ^ n))
    have p1 := pc_le t
    have p2 := pc_le (lb n N (2 ^ n))
    have s1 := op_size (E := E) (w := w) (d := d - 1) (s := t) (by omega)
    have s2 := op_size (E := E) (w := w) (d := d - 1) (s := lb n N (2 ^ n)) (by omega)
    have c1 : I t < ((1 : Int32) <<< (I n &&& 31)) := by
      rw [I_pow (by omega)]
      exact (I_lt (by omega) (by omega)).mpr (by omega)
    have K : ∀ {x8 : Int32}, GD E d 711 [.ref 0, .ref 1, .int (I n), .int x3, .int x4, .int (I (lb n N (2 ^ n))), .int (I (2 ^ n - 1)), .int (I t), .int x8, u9, u10, u11, u12, u13, u14, u15, u16, u17, u18, u19] w := fun {x8} => lw_711 hd (by
      rw [show I t + (1 : Int32) = I (t + 1) from I_add t 1]
      exact fun {u8} => lw_637 hd hE S m (t + 1) (by omega))
    by_cases q1 : pc t < pc (lb n N (2 ^ n))
    · exact GD.by (fun _ e => p83_637_d (by omega) c1 s1 s2 ((I_lt (by omega) (by omega)).mpr q1) e) (lw_679 hd hE S (by omega) (lb_least S.gw (by omega) (Or.inl q1)) K)
    · have c2 : ¬ I (pc t) < I (pc (lb n N (2 ^ n))) := fun z => q1 ((I_lt (by omega) (by omega)).mp z)
      by_cases q2 : pc t = pc (lb n N (2 ^ n))
      · by_cases q3 : t < lb n N (2 ^ n)
        · exact GD.by (fun _ e => p83_637_a (by omega) c1 s1 s2 c2 s2 (by rw [q2]) ((I_lt (by omega) (by omega)).mpr q3) e) (lw_679 hd hE S (by omega) (lb_least S.gw (by omega) (Or.inr ⟨q2, q3⟩)) K)
        · exact GD.by (fun _ e => p83_637_b (by omega) c1 s1 s2 c2 s2 (by rw [q2]) (fun z => q3 ((I_lt (by omega) (by omega)).mp z)) e) K
      · exact GD.by (fun _ e => p83_637_c (by omega) c1 s1 s2 c2 s2 (fun z => q2 ((I_inj (by omega) (by omega)).mp z)) e) K
theorem lw_598 (hd : 9 ≤ d) (hE : E.1 ≤ 260) (S : St w n N (2 ^ n - 1) D v) (hv1 : v < 2147483648) {x4 x5 : Int32} {u6 u7 u8 u9 u10 u11 u12 u13 u14 u15 u16 u17 u18 u19 : Value} : GD E d 598 [.ref 0, .ref 1, .int (I n), .int (hv n N (2 ^ n - 1)), .int x4, .int x5, u6, u7, u8, u9, u10, u11, u12, u13, u14, u15, u16, u17, u18, u19] w := by
  have h9 := S.gw.n9
  have h1p := Nat.one_le_two_pow (n := n)
  obtain ⟨w1, e1, S1⟩ := op_hunt (E := E) (d := d - 1) (by omega) S hv1
  obtain ⟨w2, e2, S2⟩ := op_least (E := E) (d := d - 1) (by omega) S1 hv1
  have hlb := lb_lt n N (Nat.le_refl (2 ^ n))
  have e3 := op_forced (E := E) (d := d - 1) (by omega) S2 hlb
  rw [lb_blue S.gw] at e3
  have e4 : (((1 : Int32) <<< (I n &&& 31)) - (1 : Int32)) = I (2 ^ n - 1) := by
    rw [I_pow (by omega), show (1 : Int32) = I 1 from rfl, I_sub h1p]
  exact GD.by (fun _ e => p83_598_b (by omega) e1 rfl e2 e3 e4.symm e4 e) (lw_637 hd hE S2 (2 ^ n) 0 (by omega))
/-- behind k shots: the deeds, the set -/
def SH (n : Nat) (D0 : DL) (s0 : Nat) : Nat → DL → Nat → Prop
  | 0, D, s => D = D0 ∧ s = s0
  | k + 1, D, _ => ∃ a s1 D1, D = (a, 9, s1) :: D1 ∧ s1 < 2 ^ n ∧ SH n D0 s0 k D1 s1
theorem SH_len {D0 : DL} {s0 : Nat} : ∀ {k : Nat} {D : DL} {s : Nat}, SH n D0 s0 k D s → D.length = D0.length + k
  | 0, D, s, h => by
    rw [h.1]; rfl
  | k + 1, D, s, h => by
    obtain ⟨a, s1, D1, rfl, _, h2⟩ := h
    have := SH_len h2
    show D1.length + 1 = _
    omega
theorem lw_580 (hd : 9 ≤ d) (hE : E.1 ≤ 260) (hv1 : v < 2147483648) {D0 : DL} {k : Nat} (hk : k ≤ 1000) : ∀ (m i : Nat) {w : Wd} {D : DL} {s : Nat}, i + m = k → SH n D0 (2 ^ n - 1) m D s → St w n N s D v → ∀ {u6 u7 u8 u9 u10 u11 u12 u13 u14 u15 u16 u17 u18 u19 : Value}, GD E d 580 [.ref 0, .ref 1, .int (I n), .int (hv n N (2 ^ n - 1)), .int (I k), .int (I i), u6, u7, u8, u9, u10, u11, u12, u13, u14, u15, u16, u17, u18, u19] w
  | 0, i, w, D, s, hi, h, S, u6, u7, u8, u9, u10, u11, u12, u13, u14, u15, u16, u17, u18, u19 => by
    obtain ⟨h1, h2⟩ := h
    subst h2
    exact GD.by (fun _ e => p83_580_c (fun z => by have := (I_lt (by omega) (by omega)).mp z; omega) e) (lw_598 hd hE S hv1)
  | m + 1, i, w, D, s, hi, h, S, u6, u7, u8, u9, u10, u11, u12, u13, u14, u15, u16, u17, u18, u19 => by
    obtain ⟨a, s1, D1, rfl, h1, h2⟩ := h
    obtain ⟨w1, x1, e1, S1⟩ := op_back (E := E) (d := d - 1) (by omega) S h1
    exact GD.by (fun _ e => p83_580_b (by omega) ((I_lt (by omega) (by omega)).mpr (by omega)) e1 (I_add i 1) e) (lw_580 hd hE hv1 hk m (i + 1) (by omega) h2 S1)
theorem hv_I {s : Nat} (h : Hn n N s < 512) : hv n N s = I (Hn n N s) := by
  unfold hv
  rw [if_pos h]
theorem hv_no {s : Nat} (h : Hn n N s = 512) : hv n N s = -1 := by
  unfold hv
  rw [if_neg (by omega)]
theorem lw_577 (hd : 9 ≤ d) (hE : E.1 ≤ 260) (hv1 : v < 2147483648) {D0 : DL} {k : Nat} (hk : k ≤ 1000) (h : SH n D0 (2 ^ n - 1) k D s) (S : St w n N s D v) {u5 u6 u7 u8 u9 u10 u11 u12 u13 u14 u15 u16 u17 u18 u19 : Value} : GD E d 577 [.ref 0, .ref 1, .int (I n), .int (hv n N (2 ^ n - 1)), .int (I k), u5, u6, u7, u8, u9, u10, u11, u12, u13, u14, u15, u16, u17, u18, u19] w :=
  GD.by (fun _ e => p83_577_a e) (lw_580 hd hE hv1 hk k 0 (by omega) h S)
theorem lw_498y (hd : 9 ≤ d) (hE : E.1 ≤ 260) (hv1 : v < 2147483648) {D0 : DL} (h9 : Hn n N (2 ^ n - 1) ≤ 68) (hD : D0.length ≤ 24) : ∀ (m k : Nat) {w : Wd} {D : DL} {s : Nat}, k + m = Hn n N (2 ^ n - 1) → Hn n N s = m → SH n D0 (2 ^ n - 1) k D s → St w n N s D v → ∀ {u5 u6 u7 u8 u9 u10 u11 u12 u13 u14 u15 u16 u17 u18 u19 : Value}, GD E d 498 [.ref 0, .ref 1, .int (I n), .int (hv n N (2 ^ n - 1)), .int (I k), u5, u6, u7, u8, u9, u10, u11, u12, u13, u14, u15, u16, u17, u18, u19] w
  | m, k, w, D, s, hk, hm, h, S, u5, u6, u7, u8, u9, u10, u11, u12, u13, u14, u15, u16, u17, u18, u19 => by
    have hx := hv_I (n := n) (N := N) (s := 2 ^ n - 1) (by omega)
    have hsl := S.sl
    have h512 := two_pow_le S.gw.n9
    by_cases hs0 : s = 0
    · subst hs0
      have c0 : gF w 0 = 0 := S.cs
      have c1 : ¬ hv n N (2 ^ n - 1) < 0 := by
        rw [hx]
        exact I_nneg (by omega)
      exact GD.by (fun _ e => p83_498_e (by omega) c0 e) (GD.by (fun _ e => p83_550_a (by omega) c1 c0 e) (GD.by (fun _ e => p83_563_b c1 e) (lw_577 hd hE hv1 (by omega) h S)))
    · have c0 : ¬ gF w 0 = 0 := by
        rw [S.cs]
        exact fun z => hs0 ((I_inj (b := 0) (by omega) (by decide)).mp z)
      have hp := Hn_pos (n := n) (N := N) hs0
      obtain ⟨w1, e1, S1⟩ := op_aim (E := E) (d := d - 1) (by omega) S hv1
      obtain ⟨r, hr, er, hr2⟩ := aim_ok S.gw hs0 (by omega)
      rw [er] at e1
      have hl := SH_len h
      have hn9 := S.gw.n9
      obtain ⟨w2, x2, e2, S2⟩ := op_shoot (E := E) (d := d - 1) (a := r) (by omega) S1 hr hs0 (by omega)
      obtain ⟨w3, e3, S3⟩ := op_hunt (E := E) (d := d - 1) (by omega) S2 hv1
      rw [hv_I (by omega)] at e3
      cases m with
      | zero => omega
      | succ m =>
        have e4 : I (Hn n N (bh n N s r)) = hv n N (2 ^ n - 1) - (I k + (1 : Int32)) := by
          rw [hx, show I k + (1 : Int32) = I (k + 1) from I_add k 1, I_sub (by omega)]
          congr 1
          omega
        exact GD.by (fun _ e => p83_498_c (by omega) c0 (by rw [hx]; exact (I_lt (by omega) (by omega)).mpr (by omega)) e1 (I_nneg (by omega)) e2 e3 e4 (I_add k 1) e) (lw_498y hd hE hv1 h9 hD m (k + 1) (by omega) (by omega) ⟨r, s, D, rfl, hsl, h⟩ S3)
theorem lw_498 (hd : 9 ≤ d) (hE : E.1 ≤ 260) (h8 : n ≤ 8) (hv1 : v < 2147483648) (hD : D.length ≤ 24) (S : St w n N (2 ^ n - 1) D v) {u5 u6 u7 u8 u9 u10 u11 u12 u13 u14 u15 u16 u17 u18 u19 : Value} : GD E d 498 [.ref 0, .ref 1, .int (I n), .int (hv n N (2 ^ n - 1)), .int 0, u5, u6, u7, u8, u9, u10, u11, u12, u13, u14, u15, u16, u17, u18, u19] w := by
  have hle := Hn_le (n := n) (N := N) (2 ^ n - 1)
  by_cases h : Hn n N (2 ^ n - 1) < 512
  · exact lw_498y hd hE hv1 (hunt_68 S.gw h8 h) hD _ 0 (Nat.zero_add _) rfl ⟨rfl, rfl⟩ S
  · have h5 : Hn n N (2 ^ n - 1) = 512 := by omega
    have hx := hv_no h5
    have h1p := Nat.one_le_two_pow (n := n)
    have hn1 := S.gw.n1
    have h2 : 2 ≤ 2 ^ n := Nat.le_trans (by decide : 2 ≤ 2 ^ 1) (Nat.pow_le_pow_right (by decide) hn1)
    have h512 := two_pow_le S.gw.n9
    have c0 : ¬ gF w 0 = 0 := by
      rw [S.cs]
      exact fun z => by have := (I_inj (b := 0) (by omega) (by decide)).mp z; omega
    have c1 : hv n N (2 ^ n - 1) < 0 := by rw [hx]; decide
    obtain ⟨w1, e1, S1⟩ := op_aim (E := E) (d := d - 1) (by omega) S hv1
    rw [aim_no h5] at e1
    exact GD.by (fun _ e => p83_498_d (by omega) c0 (by rw [hx]; decide) e) (GD.by (fun _ e => p83_550_b c1 e) (GD.by (fun _ e => p83_563_a (by omega) c1 e1 rfl e) (lw_577 (k := 0) hd hE hv1 (by omega) ⟨rfl, rfl⟩ S1)))
end
