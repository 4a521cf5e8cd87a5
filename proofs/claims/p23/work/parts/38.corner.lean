/-! CORNERS: it does not matter which one is taken. -/
section
variable {n : Nat} {N : Nat → Nat}
def rm (L a : Nat) : Nat := nd L (2 ^ a)
theorem rm_lt {L a m : Nat} (h : L < 2 ^ m) : rm L a < 2 ^ m := nd_lt2 h
theorem rm_tb {L : Nat} (h : L < 512) (a i : Nat) : (rm L a).testBit i = true ↔ L.testBit i = true ∧ i ≠ a := by
  unfold rm
  rw [tb_nd h, Nat.testBit_two_pow, Bool.and_eq_true, Bool.not_eq_true', decide_eq_false_iff_not]
  exact ⟨fun z => ⟨z.1, fun e => z.2 e.symm⟩, fun z => ⟨z.1, fun e => z.2 e.symm⟩⟩
theorem rm_comm {L : Nat} (h : L < 512) (a b : Nat) : rm (rm L a) b = rm (rm L b) a := by
  apply Nat.eq_of_testBit_eq
  intro i
  have h1 : rm L a < 512 := rm_lt (m := 9) h
  have h2 : rm L b < 512 := rm_lt (m := 9) h
  apply bool_eq
  rw [rm_tb h1, rm_tb h, rm_tb h2, rm_tb h]
  exact ⟨fun z => ⟨⟨z.1.1, z.2⟩, z.1.2⟩, fun z => ⟨⟨z.1.1, z.2⟩, z.1.2⟩⟩
theorem pc_rm {L a : Nat} (h : L < 512) (ha : L.testBit a = true) : pc L = pc (rm L a) + 1 := by
  rw [pc_sm, pc_sm]
  refine sm_upd (k := a) (tb_lo h ha) ?_ (fun i hi => ?_)
  · have : (rm L a).testBit a = false := by
      cases h1 : (rm L a).testBit a with
      | false => rfl
      | true => exact absurd rfl ((rm_tb h a a).mp h1).2
    rw [ha, this]; rfl
  · have : L.testBit i = (rm L a).testBit i := bool_eq (by rw [rm_tb h]; exact ⟨fun z => ⟨z, hi⟩, fun z => z.1⟩)
    rw [this]
theorem pc_pos {L a : Nat} (h : L < 512) (ha : L.testBit a = true) : 1 ≤ pc L := by rw [pc_rm h ha]; omega
theorem pc_two {L a b : Nat} (h : L < 512) (ha : L.testBit a = true) (hb : L.testBit b = true) (hab : a ≠ b) : 2 ≤ pc L := by
  have h1 : rm L a < 512 := rm_lt (m := 9) h
  have h2 := pc_pos h1 ((rm_tb h a b).mpr ⟨hb, Ne.symm hab⟩)
  rw [pc_rm h ha]; omega
/-- a is a corner of b among L -/
def Dom (N : Nat → Nat) (L a b : Nat) : Prop := b ≠ a ∧ L.testBit b = true ∧ ∀ x, L.testBit x = true → nr N a x = true → nr N b x = true
def Cn (N : Nat → Nat) (L a : Nat) : Prop := L.testBit a = true ∧ ∃ b, Dom N L a b
/-- at most m taken away, a single one is left -/
def Dm (N : Nat → Nat) : Nat → Nat → Prop
  | 0, L => pc L = 1
  | m + 1, L => pc L = 1 ∨ ∃ a, Cn N L a ∧ Dm N m (rm L a)
def Dx (N : Nat → Nat) (L : Nat) : Prop := ∃ m, Dm N m L
theorem Dx_one {L : Nat} (h : pc L = 1) : Dx N L := ⟨0, h⟩
theorem Dx_back {L a : Nat} (h : Cn N L a) (h1 : Dx N (rm L a)) : Dx N L := by
  obtain ⟨m, hm⟩ := h1
  exact ⟨m + 1, Or.inr ⟨a, h, hm⟩⟩
theorem Cn_two {L a : Nat} (hL : L < 512) (h : Cn N L a) : pc L ≠ 1 := fun z => by
  obtain ⟨h1, b, h2, h3, -⟩ := h
  have := pc_two hL h1 h3 (Ne.symm h2)
  omega
theorem twins (G : GW n N) : ∀ (m L u w : Nat), L < 512 → u ≠ w → L.testBit u = true → L.testBit w = true → (∀ x, L.testBit x = true → nr N u x = nr N w x) → Dm N m (rm L u) → Dx N (rm L w)
  | m, L, u, w, hL, huw, hu, hw, ht, hD => by
    have one : pc (rm L u) = 1 → Dx N (rm L w) := fun h1 => by
      have h2 := pc_rm hL hu
      have h3 := pc_rm hL hw
      exact Dx_one (by omega)
    cases m with
    | zero => exact one hD
    | succ m =>
      rcases hD with h1 | ⟨c, ⟨hc, d, hdc, hd, hdom⟩, hD2⟩
      · exact one h1
      · obtain ⟨hcL, hcu⟩ := (rm_tb hL u c).mp hc
        obtain ⟨hdL, hdu⟩ := (rm_tb hL u d).mp hd
        have hLw : rm L w < 512 := rm_lt (m := 9) hL
        by_cases hcw : c = w
        · subst hcw
          refine Dx_back (a := u) ⟨(rm_tb hL c u).mpr ⟨hu, huw⟩, d, hdu, (rm_tb hL c d).mpr ⟨hdL, hdc⟩, fun x hx hnx => ?_⟩ ?_
          · obtain ⟨hxL, hxc⟩ := (rm_tb hL c x).mp hx
            by_cases hxu : x = u
            · subst hxu
              have h1 := hdom c ((rm_tb hL x c).mpr ⟨hcL, hcu⟩) (nr_self N c)
              rw [nr_symm G, ← ht d hdL, nr_symm G] at h1
              exact h1
            · rw [ht x hxL] at hnx
              exact hdom x ((rm_tb hL u x).mpr ⟨hxL, hxu⟩) hnx
          · rw [rm_comm hL]
            exact ⟨m, hD2⟩
        · have hwu : (rm L u).testBit w = true := (rm_tb hL u w).mpr ⟨hw, Ne.symm huw⟩
          have hLc : rm L c < 512 := rm_lt (m := 9) hL
          have hcor : Cn N (rm L w) c := by
            refine ⟨(rm_tb hL w c).mpr ⟨hcL, hcw⟩, ?_⟩
            by_cases hdw : d = w
            · subst hdw
              refine ⟨u, Ne.symm hcu, (rm_tb hL d u).mpr ⟨hu, huw⟩, fun x hx hnx => ?_⟩
              obtain ⟨hxL, hxd⟩ := (rm_tb hL d x).mp hx
              by_cases hxu : x = u
              · subst hxu; exact nr_self N x
              · rw [ht x hxL]
                exact hdom x ((rm_tb hL u x).mpr ⟨hxL, hxu⟩) hnx
            · refine ⟨d, hdc, (rm_tb hL w d).mpr ⟨hdL, hdw⟩, fun x hx hnx => ?_⟩
              obtain ⟨hxL, hxw⟩ := (rm_tb hL w x).mp hx
              by_cases hxu : x = u
              · subst hxu
                rw [nr_symm G, ht c hcL, nr_symm G] at hnx
                have h1 := hdom w hwu hnx
                rw [nr_symm G, ← ht d hdL, nr_symm G] at h1
                exact h1
              · exact hdom x ((rm_tb hL u x).mpr ⟨hxL, hxu⟩) hnx
          refine Dx_back hcor ?_
          rw [rm_comm hL]
          refine twins G m (rm L c) u w hLc huw ((rm_tb hL c u).mpr ⟨hu, Ne.symm hcu⟩) ((rm_tb hL c w).mpr ⟨hw, fun z => hcw z.symm⟩) (fun x hx => ht x ((rm_tb hL c x).mp hx).1) ?_
          rw [rm_comm hL]
          exact hD2
theorem anyCorner (G : GW n N) : ∀ (m L w : Nat), L < 512 → Dm N m L → Cn N L w → Dx N (rm L w)
  | m, L, w, hL, hD, hC => by
    cases m with
    | zero => exact absurd hD (Cn_two hL hC)
    | succ m =>
      rcases hD with h1 | ⟨u, hCu, hD2⟩
      · exact absurd h1 (Cn_two hL hC)
      · by_cases huw : u = w
        · subst huw; exact ⟨m, hD2⟩
        · obtain ⟨hu, v, hvu, hv, hdv⟩ := hCu
          obtain ⟨hw, z, hzw, hz, hdz⟩ := hC
          have hLw : rm L w < 512 := rm_lt (m := 9) hL
          have hLu : rm L u < 512 := rm_lt (m := 9) hL
          by_cases htw : v = w ∧ z = u
          · obtain ⟨rfl, rfl⟩ := htw
            exact twins G m L z v hL huw hu hw (fun x hx => bool_eq ⟨hdv x hx, hdz x hx⟩) hD2
          · have c1 : Cn N (rm L w) u := by
              refine ⟨(rm_tb hL w u).mpr ⟨hu, huw⟩, ?_⟩
              by_cases hvw : v = w
              · have hzu : z ≠ u := fun e => htw ⟨hvw, e⟩
                refine ⟨z, hzu, (rm_tb hL w z).mpr ⟨hz, hzw⟩, fun x hx hnx => ?_⟩
                obtain ⟨hxL, -⟩ := (rm_tb hL w x).mp hx
                exact hdz x hxL (by rw [← hvw]; exact hdv x hxL hnx)
              · exact ⟨v, hvu, (rm_tb hL w v).mpr ⟨hv, hvw⟩, fun x hx hnx => hdv x ((rm_tb hL w x).mp hx).1 hnx⟩
            have c2 : Cn N (rm L u) w := by
              refine ⟨(rm_tb hL u w).mpr ⟨hw, Ne.symm huw⟩, ?_⟩
              by_cases hzu : z = u
              · have hvw : v ≠ w := fun e => htw ⟨e, hzu⟩
                refine ⟨v, hvw, (rm_tb hL u v).mpr ⟨hv, hvu⟩, fun x hx hnx => ?_⟩
                obtain ⟨hxL, -⟩ := (rm_tb hL u x).mp hx
                exact hdv x hxL (by rw [← hzu]; exact hdz x hxL hnx)
              · exact ⟨z, hzw, (rm_tb hL u z).mpr ⟨hz, hzu⟩, fun x hx hnx => hdz x ((rm_tb hL u x).mp hx).1 hnx⟩
            refine Dx_back c1 ?_
            rw [rm_comm hL]
            exact anyCorner G m (rm L u) w hLu hD2 c2
theorem Dx_rm (G : GW n N) {L a : Nat} (hL : L < 512) (h : Cn N L a) : Dx N L ↔ Dx N (rm L a) :=
  ⟨fun ⟨m, hm⟩ => anyCorner G m L a hL hm h, Dx_back h⟩
theorem Dx_none {L : Nat} (h : ∀ a, ¬ Cn N L a) : Dx N L ↔ pc L = 1 := by
  constructor
  · rintro ⟨m, hm⟩
    cases m with
    | zero => exact hm
    | succ m =>
      rcases hm with h1 | ⟨a, ha, _⟩
      · exact h1
      · exact absurd ha (h a)
  · exact Dx_one
/-! as the programs see it -/
def dmB (N : Nat → Nat) (L a b : Nat) : Bool := decide (nd ((N a ||| 2 ^ a) &&& L) (N b ||| 2 ^ b) = 0)
def cnB (n : Nat) (N : Nat → Nat) (L a : Nat) : Bool := anyB n (fun b => decide (b ≠ a) && (L.testBit b && dmB N L a b))
theorem nb_tb (N : Nat → Nat) (a x : Nat) : (N a ||| 2 ^ a).testBit x = nr N a x := by
  unfold nr
  rw [Nat.testBit_or, Nat.testBit_two_pow, Bool.or_comm]
theorem nb_lt (G : GW n N) {a : Nat} (ha : a < 9) : N a ||| 2 ^ a < 512 := Nat.or_lt_two_pow (n := 9) (G.lt a) (Nat.pow_lt_pow_right (by decide) ha)
theorem zero_bits {s : Nat} : s = 0 ↔ ∀ i, s.testBit i = false := by
  constructor
  · rintro rfl i; simp
  · intro h
    apply Nat.eq_of_testBit_eq
    intro i
    rw [h i, Nat.zero_testBit]
theorem dmB_iff {L a b : Nat} (hL : L < 512) : dmB N L a b = true ↔ ∀ x, L.testBit x = true → nr N a x = true → nr N b x = true := by
  have hlt : (N a ||| 2 ^ a) &&& L < 512 := Nat.and_lt_two_pow (n := 9) _ hL
  unfold dmB
  rw [decide_eq_true_eq, zero_bits]
  constructor
  · intro h x hx hn
    have h1 := h x
    rw [tb_nd hlt, Nat.testBit_and, nb_tb, nb_tb, hx, hn] at h1
    simpa using h1
  · intro h x
    rw [tb_nd hlt, Nat.testBit_and, nb_tb, nb_tb]
    cases h1 : nr N a x with
    | false => simp
    | true =>
      cases h2 : L.testBit x with
      | false => simp
      | true => rw [h x h2 h1]; rfl
theorem cnB_iff {L a : Nat} (hn : n ≤ 9) (hL : L < 2 ^ n) : cnB n N L a = true ↔ ∃ b, Dom N L a b := by
  have h512 := Nat.lt_of_lt_of_le hL (two_pow_le hn)
  unfold cnB
  rw [anyB_iff]
  constructor
  · rintro ⟨b, hb, h⟩
    rw [Bool.and_eq_true, Bool.and_eq_true, decide_eq_true_eq, dmB_iff h512] at h
    exact ⟨b, h.1, h.2.1, h.2.2⟩
  · rintro ⟨b, h1, h2, h3⟩
    refine ⟨b, lt_pow_bits hL h2, ?_⟩
    rw [Bool.and_eq_true, Bool.and_eq_true, decide_eq_true_eq, dmB_iff h512]
    exact ⟨h1, h2, h3⟩
/-- the lowest corner; n: none -/
def lcr (n : Nat) (N : Nat → Nat) (L : Nat) : Nat := ff (fun a => L.testBit a && cnB n N L a) n 0
def cgB (n : Nat) (N : Nat → Nat) : Nat → Nat → Bool
  | 0, _ => true
  | k + 1, L => if lcr n N L = n then false else cgB n N k (rm L (lcr n N L))
def faB (n : Nat) (N : Nat → Nat) : Bool := cgB n N (n - 1) (2 ^ n - 1)
theorem lcr_le (L : Nat) : lcr n N L ≤ n := by have := ff_le (fun a => L.testBit a && cnB n N L a) n 0; unfold lcr; omega
theorem lcr_some {L : Nat} (hn : n ≤ 9) (hL : L < 2 ^ n) (h : lcr n N L ≠ n) : lcr n N L < n ∧ Cn N L (lcr n N L) := by
  have h1 := lcr_le (n := n) (N := N) L
  have h2 := ff_yes (fun a => L.testBit a && cnB n N L a) n 0 (by show lcr n N L < 0 + n; omega)
  have h3 : (L.testBit (lcr n N L) && cnB n N L (lcr n N L)) = true := h2
  rw [Bool.and_eq_true, cnB_iff hn hL] at h3
  exact ⟨by omega, h3⟩
theorem lcr_none {L : Nat} (hn : n ≤ 9) (hL : L < 2 ^ n) (h : lcr n N L = n) (a : Nat) : ¬ Cn N L a := by
  rintro ⟨h1, h2⟩
  have ha := lt_pow_bits hL h1
  have h3 := ff_no (fun a => L.testBit a && cnB n N L a) n 0 a (Nat.zero_le _) (by show a < lcr n N L; omega)
  have h4 : (L.testBit a && cnB n N L a) = true := by rw [Bool.and_eq_true, cnB_iff hn hL]; exact ⟨h1, h2⟩
  rw [h4] at h3; cases h3
theorem cg_iff (G : GW n N) : ∀ k L, L < 2 ^ n → pc L = k + 1 → (cgB n N k L = true ↔ Dx N L)
  | 0, L, _, hp => ⟨fun _ => Dx_one hp, fun _ => rfl⟩
  | k + 1, L, hL, hp => by
    have h512 := Nat.lt_of_lt_of_le hL (two_pow_le G.n9)
    unfold cgB
    by_cases h : lcr n N L = n
    · rw [if_pos h, Dx_none (lcr_none G.n9 hL h)]
      constructor
      · intro z; cases z
      · intro z; omega
    · obtain ⟨h1, h2⟩ := lcr_some G.n9 hL h
      rw [if_neg h, Dx_rm G h512 h2]
      have := pc_rm h512 h2.1
      exact cg_iff G k _ (rm_lt hL) (by omega)
theorem pc_all : ∀ n, n ≤ 9 → pc (2 ^ n - 1) = n := by decide +kernel
theorem fa_iff (G : GW n N) : faB n N = true ↔ Dx N (2 ^ n - 1) := by
  have h1 := G.n1
  have h1p := Nat.one_le_two_pow (n := n)
  exact cg_iff G (n - 1) (2 ^ n - 1) (by omega) (by rw [pc_all n G.n9]; omega)
end
