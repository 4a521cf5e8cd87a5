/-! THE DEEDS: back, door. -/
section
variable {E : Nat × (Nat → Int32)} {w : Wd} {d n s v : Nat} {N : Nat → Nat} {D : DL} {x y z t : Int32}
theorem xor_self_r (a b : Nat) : a ^^^ b ^^^ b = a := by rw [Nat.xor_assoc, Nat.xor_self, Nat.xor_zero]
theorem tog_tog {a b : Nat} (hab : a ≠ b) : tog (tog N a b) a b = N := by
  funext r
  unfold tog
  by_cases h1 : r = b
  · subst h1
    rw [if_pos rfl, if_pos rfl, xor_self_r]
  · by_cases h2 : r = a
    · subst h2
      rw [if_neg h1, if_pos rfl, if_neg h1, if_pos rfl, xor_self_r]
    · rw [if_neg h1, if_neg h2, if_neg h1, if_neg h2]
theorem tog_bit {a b : Nat} (hab : a ≠ b) : (tog N a b a).testBit b = !(N a).testBit b := by
  unfold tog
  rw [if_neg hab, if_pos rfl, Nat.testBit_xor, Nat.testBit_two_pow, decide_eq_true rfl, Bool.xor_true]
theorem sp34 {k : Nat} (hd : 1 ≤ d) (hk : gF w 3 = I (k + 1)) (h : k < 200) : Ev d 34 (ent0 34 [.ref 5] (hp E w)) (.inl (some (.int (gA w 1 k))), hp E w) :=
  p34_e_a hd (by rw [hk]; exact I_sub (b := 1) (by omega)) (by omega) (rv_in h)
theorem sp35 {k : Nat} (hd : 1 ≤ d) (hk : gF w 3 = I (k + 1)) (h : k < 200) : Ev d 35 (ent0 35 [.ref 5] (hp E w)) (.inl (some (.int (gA w 2 k))), hp E w) :=
  p35_e_a hd (by rw [hk]; exact I_sub (b := 1) (by omega)) (by omega) (rv_in h)
theorem sp36 {k : Nat} (hd : 1 ≤ d) (hk : gF w 3 = I (k + 1)) (h : k < 200) : Ev d 36 (ent0 36 [.ref 5] (hp E w)) (.inl (some (.int (gA w 3 k))), hp E w) :=
  p36_e_a hd (by rw [hk]; exact I_sub (b := 1) (by omega)) (by omega) (rv_in h)
theorem sp37 {k : Nat} (hk : gF w 3 = I (k + 1)) (h : k < 200) : Ev d 37 (ent0 37 [.ref 5] (hp E w)) (.inl none, hp E (sF 3 (I k) w)) :=
  p37_e_a (by rw [hk]; exact (I_lt (a := 0) (by omega) (by omega)).mpr (by omega)) (by rw [hk, show I (k + 1) - (1 : Int32) = I k from I_sub (b := 1) (by omega)])
theorem I_pos_ne {k : Nat} (h : k < 1000) : ¬ I (k + 1) = 0 := fun z => by have := (I_inj (b := 0) (by omega) (by decide)).mp z; omega
theorem op_back (hd : 40 ≤ d) (S : Sim w n N s D v) : AGW E w v d 143 [.ref 1, .ref 37] 110 [.ref 27] := by
  have hn := S.gw.n9
  cases D with
  | nil => exact agw_throw S (by decide) (p143_e_a (by omega) (p73_e_a (by omega) S.cl rfl)) (p110_e_a (by omega) S.ml sp97)
  | cons hd0 t =>
    obtain ⟨a, b, s0⟩ := hd0
    obtain ⟨G, hs, hl, ⟨ha, hs0, hD⟩, ⟨k1, k2, k3, k4, ⟨⟨r1, r2, r3⟩, k5⟩, k6, k7, k8⟩, ⟨m1, m2, m3, ⟨q1, q2⟩⟩⟩ := S
    have hlt : t.length + 1 ≤ 200 := hl
    have k4' : gF w 3 = I (t.length + 1) := k4
    have m3' : gF w 11 = I (t.length + 1) := m3
    have c1 : ¬ gF w 3 = 0 := by rw [k4']; exact I_pos_ne (by omega)
    have c2 : ¬ gF w 11 = 0 := by rw [m3']; exact I_pos_ne (by omega)
    have es : gF w 11 - (1 : Int32) = I t.length := by rw [m3']; exact I_sub (b := 1) (by omega)
    rcases hD with ⟨b9, hD⟩ | ⟨hb, hab, hD⟩
    · have q3 : gA w 11 t.length = -1 ∧ MDf (gA w 11) (gA w 12) (gA w 13) (gA w 14) N t := by
        rcases q2 with q | q
        · exact q.2
        · exact absurd b9 q.1
      rw [if_pos b9] at r2
      have e1 := p143_e_b (E := E) (d := d) (by omega) (p73_e_c (by omega) c1 (sp35 (by omega) k4' (by omega)) r2 (sp36 (by omega) k4' (by omega)) (sp37 (by exact k4') (by omega)) rfl) rfl
      have e2 := p110_e_d (E := E) (d := d) (w := so1 (I t.length).toInt64 (sF 3 (I t.length) (sF 0 (gA w 3 t.length) w))) (j1 := t.length) (j2 := t.length) c2 es (by omega) q3.1 es (by omega) rfl rfl
      refine ⟨_, _, _, _, e1, e2, rfl, fun _ => ?_, n, N, s0, t, v, ⟨G, hs0, by omega, hD, ⟨k1, r3, k3, rfl, k5, k6, k7, k8⟩, ⟨m1, q1, es, q3.2⟩⟩, by omega, Nat.le_succ _⟩
      show gO (so1 (I t.length).toInt64 _) = (gF w 11 - (1 : Int32)).toInt64
      rw [es]; exact gO_so1
    · have hb9 : ¬ b = 9 := by omega
      have q3 : gA w 11 t.length = I a ∧ gA w 12 t.length = I b ∧ gA w 13 t.length = bI ((tog N a b a).testBit b) ∧ MDf (gA w 11) (gA w 12) (gA w 13) (gA w 14) (tog N a b) t := by
        rcases q2 with q | q
        · exact absurd q.1 hb9
        · exact q.2
      obtain ⟨q3, q4, q5, q6⟩ := q3
      rw [if_neg hb9] at r2
      have h34 := sp34 (E := E) (w := w) (d := d - 1 - 1) (by omega) k4' (show t.length < 200 by omega)
      have h35 := sp35 (E := E) (w := w) (d := d - 1 - 1) (by omega) k4' (show t.length < 200 by omega)
      rw [r1] at h34
      rw [r2] at h35
      have e1 := p143_e_b (E := E) (d := d) (by omega) (p73_e_b (by omega) c1 h35 (I_ne_m1 (by omega)) h34 (sp48 (by omega) (show a < 9 by omega) (show b < 9 by omega)) (sp36 (w := td a b w) (by omega) (by exact k4') (by omega)) (sp37 (by exact k4') (by omega)) rfl) rfl
      have hG' := GW_tog G hab ha hb
      have k1' := GR_td k1 hab (show a < 9 by omega) (show b < 9 by omega)
      have kv : gF w 2 + 1 = I (v + 1) := by rw [k3]; exact I_add v 1
      have main : Ev d 110 (ent0 110 [.ref 27] (hp E (so1 (I t.length).toInt64 (sF 3 (I t.length) (sF 0 (gA (td a b w) 3 t.length) (td a b w)))))) (.inl (some (.int (gF w 11 - (1 : Int32)))), hp E (sF 10 (gA w 14 t.length) (sA 10 (putf (gA w 10) a b ((tog N a b a).testBit b)) (sF 11 (gF w 11 - (1 : Int32)) (sF 8 0 (so1 (I t.length).toInt64 (sF 3 (I t.length) (sF 0 (gA (td a b w) 3 t.length) (td a b w))))))))) := by
        cases hw : (tog N a b a).testBit b with
        | true =>
          rw [hw] at q5
          exact p110_e_b (E := E) (d := d) (w := so1 (I t.length).toInt64 (sF 3 (I t.length) (sF 0 (gA (td a b w) 3 t.length) (td a b w)))) (j1 := t.length) (j2 := t.length) (j3 := t.length) (j4 := t.length) (j5 := t.length) (by omega) c2 es (by omega) (by show ¬ gA w 11 t.length = -1; rw [q3]; exact I_ne_m1 (by omega)) es (by omega) es (by omega) es (by omega) q5 q3 q4 (sp104 (is := true) (by omega) (by omega)) es (by omega) rfl rfl
        | false =>
          rw [hw] at q5
          exact p110_e_c (E := E) (d := d) (w := so1 (I t.length).toInt64 (sF 3 (I t.length) (sF 0 (gA (td a b w) 3 t.length) (td a b w)))) (j1 := t.length) (j2 := t.length) (j3 := t.length) (j4 := t.length) (j5 := t.length) (by omega) c2 es (by omega) (by show ¬ gA w 11 t.length = -1; rw [q3]; exact I_ne_m1 (by omega)) es (by omega) es (by omega) es (by omega) (by show ¬ gA w 13 t.length = 1; rw [q5]; decide) q3 q4 (sp104 (is := false) (by omega) (by omega)) es (by omega) rfl rfl
      have hbit : (N a).testBit b = !((tog N a b a).testBit b) := by rw [tog_bit hab, Bool.not_not]
      have m1' := MR_put (is := (tog N a b a).testBit b) m1 G hab (show a < 9 by omega) (show b < 9 by omega) hbit
      refine ⟨_, _, _, _, e1, main, rfl, fun _ => ?_, n, tog N a b, s0, t, v + 1, ⟨hG', hs0, by omega, hD, ⟨k1', r3, kv, rfl, k5, cach_new k6 (Nat.lt_succ_self _), cach_new k7 (Nat.lt_succ_self _), cach_new k8 (Nat.lt_succ_self _)⟩, ⟨m1', q1, es, q6⟩⟩, by omega, Nat.le_succ _⟩
      show gO (so1 (I t.length).toInt64 _) = (gF w 11 - (1 : Int32)).toInt64
      rw [es]; exact gO_so1
/-- a call of door: the class, behind its wrapper, and the reference -/
theorem op_door {is : Bool} (hd : 40 ≤ d) (S : Sim w n N s D v) : ∃ w1 v1 w2 b, Ev d 141 (ent0 141 [.ref 1, .int x, .int y, .int (bI is), .ref 37] (hp E w)) (.inl (some (.int v1)), hp E w1) ∧ Ev d 107 (ent0 107 [.ref 27, .int x, .int y, .int (bI is)] (hp E w1)) (.inl (some (.int (bI b))), hp E w2) ∧ gF w2 8 = v1 ∧ (v1 = 0 → gO w2 = bif b then 1 else 0) ∧ OUT w v w2 := by
  have hn := S.gw.n9
  have fx := fun u (h : MR u n N) => sp98 (E := E) (w := u) (d := d - 1) (x := x) h
  have fy := fun u (h : MR u n N) => sp98 (E := E) (w := u) (d := d - 1) (x := y) h
  cases hx : isR n x with
  | false =>
    have h9 := fx (sF 8 0 (sT w)) S.mr
    rw [hx] at h9
    exact ⟨_, _, _, false, p141_e_c (by omega) (p71_e_a (by omega) (sp90F (by omega) S.gr hx)), p107_e_i (by omega) h9 rfl sp97, rfl, fun z => absurd z (by decide), Sim.out (S.t.f8.f8) (Nat.le_refl _)⟩
  | true =>
    cases hy : isR n y with
    | false =>
      have h9 := fx (sF 8 0 (sT w)) S.mr
      have h8 := fy (sF 8 0 (sT w)) S.mr
      rw [hx] at h9
      rw [hy] at h8
      exact ⟨_, _, _, false, p141_e_c (by omega) (p71_e_b (by omega) (sp90T (by omega) S.gr hx) (sp90F (by omega) S.gr hy)), p107_e_a (by omega) h9 (by decide) h8 rfl sp97, rfl, fun z => absurd z (by decide), Sim.out (S.t.f8.f8) (Nat.le_refl _)⟩
    | true =>
      by_cases hxy : x = y
      · have h9 := fx (sF 8 0 (sT w)) S.mr
        have h8 := fy (sF 8 0 (sT w)) S.mr
        rw [hx] at h9
        rw [hy] at h8
        exact ⟨_, _, _, false, p141_e_b (by omega) (p71_e_c (by omega) (sp90T (by omega) S.gr hx) (sp90T (by omega) S.gr hy) hxy rfl), p107_e_b (by omega) h9 (by decide) h8 (by decide) hxy sp97, rfl, fun z => absurd z (by decide), Sim.out (S.t.f8.f8) (Nat.le_refl _)⟩
      · obtain ⟨a, ha, rfl⟩ := isR_ex hx hn
        obtain ⟨b, hb, rfl⟩ := isR_ex hy hn
        have hab : a ≠ b := fun z => hxy (by rw [z])
        have hN := tb_big (S.gw.lt a)
        have q47 := sp47 (E := E) (w := w) (d := d - 1 - 1) (a := a) (b := b) (by omega) S.gr S.gw (by omega) (by omega)
        have mb := S.mr.2 a (by omega)
        by_cases hbi : (N a).testBit b = is
        · -- as it was
          have e1 := p71_e_f (E := E) (d := d - 1) (x3 := bI is) (by omega) (sp90T (by omega) S.gr hx) (sp90T (by omega) S.gr hy) hxy q47 (by rw [hbi]) (bI_and _)
          have h9 := fun u => fx (sF 8 0 (so1 u w)) S.mr
          have h8 := fun u => fy (sF 8 0 (so1 u w)) S.mr
          rw [hx] at h9
          rw [hy] at h8
          rw [hbi] at e1
          refine ⟨so1 (bif is then 1 else 0) w, 0, sF 8 0 (so1 (bif is then 1 else 0) w), is, ?_, ?_, ?_, ?_, ?_⟩
          · cases is with
            | true => exact p141_e_d (by omega) e1 (by decide) rfl
            | false => exact p141_e_e (by omega) e1 rfl rfl
          · cases is with
            | true => exact p107_e_c (by omega) (h9 _) (by decide) (h8 _) (by decide) hxy rfl (show a < 9 by omega) (by show ((gA w 10 a >>> (I b &&& 31)) &&& 1) = 1; rw [mb]; exact shr1T hN (by omega) hbi) rfl
            | false => exact p107_e_f (by omega) (h9 _) (by decide) (h8 _) (by decide) hxy rfl (show a < 9 by omega) (by show ¬ ((gA w 10 a >>> (I b &&& 31)) &&& 1) = 1; rw [mb]; exact shr1F hN (by omega) hbi) rfl
          · rfl
          · exact fun _ => gO_so1
          · exact Sim.out S.o.f8 (Nat.le_succ _)
        · have hne : ¬ bI ((N a).testBit b) = bI is := by
            intro z
            apply hbi
            cases h1 : (N a).testBit b <;> cases is <;> rw [h1] at z <;> first | rfl | exact absurd z (by decide)
          by_cases hl : D.length = 200
          · have e1 := p71_e_d (E := E) (d := d - 1) (x3 := bI is) (by omega) (sp90T (by omega) S.gr hx) (sp90T (by omega) S.gr hy) hxy q47 hne (sp93F (by omega) S.cl hl)
            have h9 := fx (sF 8 0 (sT w)) S.mr
            have h8 := fy (sF 8 0 (sT w)) S.mr
            rw [hx] at h9
            rw [hy] at h8
            have c6 : gF (sF 8 0 (sT w)) 11 = 200 := by show gF w 11 = 200; rw [S.ml, hl]; rfl
            refine ⟨_, _, sF 8 3 (sF 8 0 (sT w)), false, p141_e_a (by omega) e1, ?_, rfl, fun z => absurd z (by decide), Sim.out (S.t.f8.f8) (Nat.le_refl _)⟩
            cases hbt : (N a).testBit b with
            | true => exact p107_e_d (by omega) h9 (by decide) h8 (by decide) hxy rfl (show a < 9 by omega) (by show ((gA w 10 a >>> (I b &&& 31)) &&& 1) = 1; rw [mb]; exact shr1T hN (by omega) hbt) (by rw [hbt] at hne; exact hne) c6 sp97
            | false => exact p107_e_g (by omega) h9 (by decide) h8 (by decide) hxy rfl (show a < 9 by omega) (by show ¬ ((gA w 10 a >>> (I b &&& 31)) &&& 1) = 1; rw [mb]; exact shr1F hN (by omega) hbt) (by rw [hbt] at hne; exact hne) c6 sp97
          · have hll : D.length < 200 := by have := S.2.2.1; omega
            obtain ⟨G, hs, hl2, hD, ⟨k1, k2, k3, k4, k5, k6, k7, k8⟩, ⟨m1, m2, m3, m4⟩⟩ := S
            have hG' := GW_tog G hab ha hb
            have k1' : GR (td a b (cad D.length (I a) (I b) (I s) w)) n (tog N a b) := GR_td (w := cad D.length (I a) (I b) (I s) w) (by exact k1) hab (show a < 9 by omega) (show b < 9 by omega)
            have kv : gF w 2 + 1 = I (v + 1) := by rw [k3]; exact I_add v 1
            have e1 := p71_e_e (E := E) (d := d - 1) (x3 := bI is) (by omega) (sp90T (by omega) k1 hx) (sp90T (by omega) k1 hy) hxy q47 hne (sp93T (by omega) k4 hll) k2 (sp33 (x := I a) (y := I b) (z := I s) (by omega) k4 hll) (sp48 (by omega) (show a < 9 by omega) (show b < 9 by omega)) (sp45 k1' hG') rfl (bI_and _)
            have hbit : (N a).testBit b = !is := by
              cases h1 : (N a).testBit b <;> cases is <;> first | rfl | exact absurd h1 hbi
            generalize hW : sF 0 (I (2 ^ n - 1)) (td a b (cad D.length (I a) (I b) (I s) w)) = W at e1
            have W1 : MR W n N := by rw [← hW]; exact m1
            have W2 : gF W 10 = I s := by rw [← hW]; exact m2
            have W3 : gF W 11 = I D.length := by rw [← hW]; exact m3
            have h9 := fun u => fx (sF 8 0 (so1 u W)) W1
            have h8 := fun u => fy (sF 8 0 (so1 u W)) W1
            rw [hx] at h9
            rw [hy] at h8
            have c6 : ∀ u, ¬ gF (sF 8 0 (so1 u W)) 11 = 200 := fun u => by show ¬ gF W 11 = 200; rw [W3]; exact fun z => hl ((I_inj (b := 200) (by omega) (by decide)).mp z)
            have mb' : gA W 10 a = I (N a) := W1.2 a (by omega)
            have mk := fun u z => sp106 (E := E) (w := sF 8 0 (so1 u W)) (d := d - 1) (x := I a) (y := I b) (z := z) (u := I s) W3 W2 hll
            have m99 := fun u z f => sp99 (E := E) (w := sA 10 f (mad D.length (I a) (I b) z (I s) (sF 8 0 (so1 u W)))) (d := d - 1) (n := n) W1.1 hn
            refine ⟨so1 (bif (!is) then 1 else 0) W, 0, sF 10 (I (2 ^ n - 1)) (sA 10 (putf (gA W 10) a b is) (mad D.length (I a) (I b) (bI (!is)) (I s) (sF 8 0 (so1 (bif (!is) then 1 else 0) W)))), !is, ?_, ?_, rfl, fun _ => gO_so1, ?_⟩
            · rw [hbit] at e1
              cases is with
              | true => exact p141_e_e (by omega) e1 rfl rfl
              | false => exact p141_e_d (by omega) e1 (by decide) rfl
            · cases is with
              | true => exact p107_e_h (by omega) (h9 _) (by decide) (h8 _) (by decide) hxy rfl (show a < 9 by omega) (by show ¬ ((gA W 10 a >>> (I b &&& 31)) &&& 1) = 1; rw [mb']; exact shr1F hN (by omega) hbit) (by decide) (c6 _) rfl (mk _ _) rfl (sp104 (is := true) (by omega) (by omega)) (m99 _ _ _) rfl
              | false => exact p107_e_e (by omega) (h9 _) (by decide) (h8 _) (by decide) hxy rfl (show a < 9 by omega) (by show ((gA W 10 a >>> (I b &&& 31)) &&& 1) = 1; rw [mb']; exact shr1T hN (by omega) hbit) (by decide) (c6 _) rfl (mk _ _) rfl (sp104 (is := false) (by omega) (by omega)) (m99 _ _ _) rfl
            · have hm := MR_put (is := is) m1 G hab (show a < 9 by omega) (show b < 9 by omega) hbit
              have hp := Nat.two_pow_pos n
              rw [← hW]
              refine ⟨n, tog N a b, 2 ^ n - 1, (a, b, s) :: D, v + 1, ⟨hG', by omega, hll, ⟨ha, hs, Or.inr ⟨hb, hab, ?_⟩⟩, ⟨k1', rfl, kv, rfl, ?_, cach_new k6 (Nat.lt_succ_self _), cach_new k7 (Nat.lt_succ_self _), cach_new k8 (Nat.lt_succ_self _)⟩, ⟨hm, rfl, rfl, ?_⟩⟩, by omega, Nat.le_succ _⟩
              · rw [tog_tog hab]; exact hD
              · have := CD_cons (a := a) (b := b) (x := s) k5
                rw [if_neg (show ¬ b = 9 by omega)] at this
                exact this
              · refine ⟨upd_at, Or.inr ⟨by omega, upd_at, upd_at, ?_, ?_⟩⟩
                · rw [tog_tog hab, hbit]; exact upd_at
                · rw [tog_tog hab]
                  exact MDf_upd (fun _ hi => ⟨upd_low hi, upd_low hi, upd_low hi, upd_low hi⟩) m4
end
