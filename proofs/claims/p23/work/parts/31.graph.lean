/-! THE CLASS'S GRAPH: its methods but the corners. -/
section
def bcx (x0 : Int32) : Int32 := ((((((((x0 - (((x0).toUInt32 >>> (((1 : Int32)).toUInt32 &&& Int32.toUInt32 31)).toInt32 &&& (1431655765 : Int32))) &&& (858993459 : Int32)) + ((((x0 - (((x0).toUInt32 >>> (((1 : Int32)).toUInt32 &&& Int32.toUInt32 31)).toInt32 &&& (1431655765 : Int32)))).toUInt32 >>> (((2 : Int32)).toUInt32 &&& Int32.toUInt32 31)).toInt32 &&& (858993459 : Int32))) + (((((x0 - (((x0).toUInt32 >>> (((1 : Int32)).toUInt32 &&& Int32.toUInt32 31)).toInt32 &&& (1431655765 : Int32))) &&& (858993459 : Int32)) + ((((x0 - (((x0).toUInt32 >>> (((1 : Int32)).toUInt32 &&& Int32.toUInt32 31)).toInt32 &&& (1431655765 : Int32)))).toUInt32 >>> (((2 : Int32)).toUInt32 &&& Int32.toUInt32 31)).toInt32 &&& (858993459 : Int32)))).toUInt32 >>> (((4 : Int32)).toUInt32 &&& Int32.toUInt32 31)).toInt32) &&& (252645135 : Int32)) + (((((((x0 - (((x0).toUInt32 >>> (((1 : Int32)).toUInt32 &&& Int32.toUInt32 31)).toInt32 &&& (1431655765 : Int32))) &&& (858993459 : Int32)) + ((((x0 - (((x0).toUInt32 >>> (((1 : Int32)).toUInt32 &&& Int32.toUInt32 31)).toInt32 &&& (1431655765 : Int32)))).toUInt32 >>> (((2 : Int32)).toUInt32 &&& Int32.toUInt32 31)).toInt32 &&& (858993459 : Int32))) + (((((x0 - (((x0).toUInt32 >>> (((1 : Int32)).toUInt32 &&& Int32.toUInt32 31)).toInt32 &&& (1431655765 : Int32))) &&& (858993459 : Int32)) + ((((x0 - (((x0).toUInt32 >>> (((1 : Int32)).toUInt32 &&& Int32.toUInt32 31)).toInt32 &&& (1431655765 : Int32)))).toUInt32 >>> (((2 : Int32)).toUInt32 &&& Int32.toUInt32 31)).toInt32 &&& (858993459 : Int32)))).toUInt32 >>> (((4 : Int32)).toUInt32 &&& Int32.toUInt32 31)).toInt32) &&& (252645135 : Int32))).toUInt32 >>> (((8 : Int32)).toUInt32 &&& Int32.toUInt32 31)).toInt32) + ((((((((x0 - (((x0).toUInt32 >>> (((1 : Int32)).toUInt32 &&& Int32.toUInt32 31)).toInt32 &&& (1431655765 : Int32))) &&& (858993459 : Int32)) + ((((x0 - (((x0).toUInt32 >>> (((1 : Int32)).toUInt32 &&& Int32.toUInt32 31)).toInt32 &&& (1431655765 : Int32)))).toUInt32 >>> (((2 : Int32)).toUInt32 &&& Int32.toUInt32 31)).toInt32 &&& (858993459 : Int32))) + (((((x0 - (((x0).toUInt32 >>> (((1 : Int32)).toUInt32 &&& Int32.toUInt32 31)).toInt32 &&& (1431655765 : Int32))) &&& (858993459 : Int32)) + ((((x0 - (((x0).toUInt32 >>> (((1 : Int32)).toUInt32 &&& Int32.toUInt32 31)).toInt32 &&& (1431655765 : Int32)))).toUInt32 >>> (((2 : Int32)).toUInt32 &&& Int32.toUInt32 31)).toInt32 &&& (858993459 : Int32)))).toUInt32 >>> (((4 : Int32)).toUInt32 &&& Int32.toUInt32 31)).toInt32) &&& (252645135 : Int32)) + (((((((x0 - (((x0).toUInt32 >>> (((1 : Int32)).toUInt32 &&& Int32.toUInt32 31)).toInt32 &&& (1431655765 : Int32))) &&& (858993459 : Int32)) + ((((x0 - (((x0).toUInt32 >>> (((1 : Int32)).toUInt32 &&& Int32.toUInt32 31)).toInt32 &&& (1431655765 : Int32)))).toUInt32 >>> (((2 : Int32)).toUInt32 &&& Int32.toUInt32 31)).toInt32 &&& (858993459 : Int32))) + (((((x0 - (((x0).toUInt32 >>> (((1 : Int32)).toUInt32 &&& Int32.toUInt32 31)).toInt32 &&& (1431655765 : Int32))) &&& (858993459 : Int32)) + ((((x0 - (((x0).toUInt32 >>> (((1 : Int32)).toUInt32 &&& Int32.toUInt32 31)).toInt32 &&& (1431655765 : Int32)))).toUInt32 >>> (((2 : Int32)).toUInt32 &&& Int32.toUInt32 31)).toInt32 &&& (858993459 : Int32)))).toUInt32 >>> (((4 : Int32)).toUInt32 &&& Int32.toUInt32 31)).toInt32) &&& (252645135 : Int32))).toUInt32 >>> (((8 : Int32)).toUInt32 &&& Int32.toUInt32 31)).toInt32)).toUInt32 >>> (((16 : Int32)).toUInt32 &&& Int32.toUInt32 31)).toInt32) &&& (63 : Int32))
theorem bcx_pc : ∀ s : Nat, s < 512 → bcx (I s) = I (pc s) := by decide +kernel
variable {E : Nat × (Nat → Int32)} {w : Wd} {d n : Nat} {N : Nat → Nat}
theorem sp79 {s : Nat} (hs : s < 512) : Ev d 79 (ent0 79 [.int (I s)] (hp E w)) (.inl (some (.int (I (pc s)))), hp E w) := p79_e_a (bcx_pc s hs)
theorem sp42 (hR : GR w n N) (G : GW n N) : Ev d 42 (ent0 42 [.ref 2] (hp E w)) (.inl (some (.int (I (2 ^ n - 1)))), hp E w) := by
  refine p42_e_a ?_
  have := G.n9
  rw [hR.1, I_pow (by omega), show (1 : Int32) = I 1 from rfl, I_sub (Nat.one_le_two_pow)]
/-- is it a room -/
def isR (n : Nat) (x : Int32) : Bool := !decide (x < 0) && decide (x < I n)
theorem isR_ex {x : Int32} (h : isR n x = true) (hn : n ≤ 9) : ∃ r, r < n ∧ x = I r := by
  unfold isR at h
  simp only [Bool.and_eq_true, Bool.not_eq_true', decide_eq_false_iff_not, decide_eq_true_eq] at h
  obtain ⟨h1, h2⟩ := h
  have h3 : 0 ≤ x.toInt := by
    have := Int32.not_lt.mp h1
    rw [Int32.le_iff_toInt_le] at this
    exact this
  have h4 : x = I x.toInt.toNat := by
    apply Int32.toInt_inj.mp
    have h5 := Int32.toInt_lt x
    rw [I_toInt (by omega)]
    omega
  refine ⟨x.toInt.toNat, ?_, h4⟩
  rw [h4] at h2
  have h5 := Int32.toInt_lt x
  exact (I_lt (by omega) (by omega)).mp h2
theorem isR_I {r : Nat} (hr : r < 2147483648) (hn : n ≤ 9) : isR n (I r) = decide (r < n) := by
  unfold isR
  rw [show decide (I r < 0) = false from decide_eq_false (I_nneg hr), show decide (I r < I n) = decide (r < n) from decide_eq_decide.mpr (I_lt hr (by omega))]
  rfl
theorem isR_m1 : isR n (-1) = false := by
  unfold isR
  rw [show decide ((-1 : Int32) < 0) = true by decide]
  rfl
theorem sp41 {x : Int32} (hR : GR w n N) : Ev d 41 (ent0 41 [.ref 2, .int x] (hp E w)) (.inl (some (.int (bI (isR n x)))), hp E w) := by
  by_cases h0 : x < 0
  · rw [show isR n x = false by simp [isR, h0]]
    exact p41_e_c h0
  · by_cases h1 : x < I n
    · rw [show isR n x = true by simp [isR, h0, h1]]
      exact p41_e_a h0 (by rw [hR.1]; exact h1)
    · rw [show isR n x = false by simp [isR, h0, h1]]
      exact p41_e_b h0 (by rw [hR.1]; exact h1)
theorem sp44 {a b : Nat} (hd : 2 ≤ d) (hR : GR w n N) (G : GW n N) (ha : a < 9) (hb : b < 9) : Ev d 44 (ent0 44 [.ref 2, .int (I a), .int (I b)] (hp E w)) (.inl (some (.int (bI ((N a).testBit b)))), hp E w) := by
  have hN := tb_big (G.lt a)
  cases h : (N a).testBit b with
  | true => exact p44_e_a hd rfl (by omega) (by rw [hR.2]; exact bit0T hN (by omega) h)
  | false => exact p44_e_b hd rfl (by omega) (by rw [hR.2]; exact bit0F hN (by omega) h)
theorem sA_sA (j : Nat) (f g : Nat → Int32) (w : Wd) : sA j f (sA j g w) = sA j f w := by
  unfold sA
  congr 1
  funext i
  show (bif Nat.beq i j then f else (bif Nat.beq i j then g else w.1 i)) = (bif Nat.beq i j then f else w.1 i)
  cases Nat.beq i j <;> rfl
/-- a door turned, in the class's row -/
def tdf (f : Nat → Int32) (a b : Nat) : Nat → Int32 := upd (upd f a (f a ^^^ I (2 ^ b))) b (upd f a (f a ^^^ I (2 ^ b)) b ^^^ I (2 ^ a))
def td (a b : Nat) (w : Wd) : Wd := sF 2 (gF w 2 + 1) (sA 0 (tdf (gA w 0) a b) w)
theorem sp45 {a b : Nat} (hd : 2 ≤ d) (ha : a < 9) (hb : b < 9) : Ev d 45 (ent0 45 [.ref 2, .int (I a), .int (I b)] (hp E w)) (.inl none, hp E (td a b w)) := by
  refine p45_e_a hd rfl (by omega) rfl (by omega) ?_
  rw [rv_in ha, rp_in ha, I_pow (show b < 31 by omega), I_pow (show a < 31 by omega)]
  show sF 2 (gF w 2 + 1) (sA 0 (rp 9 (upd (gA w 0) a (gA w 0 a ^^^ I (2 ^ b))) b (rv 9 (upd (gA w 0) a (gA w 0 a ^^^ I (2 ^ b))) b ^^^ I (2 ^ a))) (sA 0 (upd (gA w 0) a (gA w 0 a ^^^ I (2 ^ b))) w)) = td a b w
  rw [sA_sA, rv_in hb, rp_in hb]
  rfl
/-- a door turned -/
def tog (N : Nat → Nat) (a b : Nat) : Nat → Nat := fun r => if r = b then N b ^^^ 2 ^ a else if r = a then N a ^^^ 2 ^ b else N r
theorem GR_td {a b : Nat} (hR : GR w n N) (hab : a ≠ b) (ha : a < 9) (hb : b < 9) : GR (td a b w) n (tog N a b) := by
  refine ⟨hR.1, fun r => ?_⟩
  show rv 9 (tdf (gA w 0) a b) r = I (tog N a b r)
  have hr := hR.2 r
  by_cases h9 : r < 9
  · rw [rv_in h9] at hr ⊢
    have hra := hR.2 a
    have hrb := hR.2 b
    rw [rv_in ha] at hra
    rw [rv_in hb] at hrb
    unfold tdf tog
    rw [upd_ap]
    by_cases h1 : r = b
    · rw [if_pos h1, if_pos h1, upd_ap, if_neg (Ne.symm hab), hrb, I_xor]
    · rw [if_neg h1, if_neg h1, upd_ap]
      by_cases h2 : r = a
      · rw [if_pos h2, if_pos h2, hra, I_xor]
      · rw [if_neg h2, if_neg h2, hr]
  · unfold tog
    rw [if_neg (by omega), if_neg (by omega), ← hr]
    simp [rv, h9]
theorem tb_tog {a b : Nat} (hab : a ≠ b) (i j : Nat) : (tog N a b i).testBit j = ((N i).testBit j ^^ (decide (i = a ∧ j = b) || decide (i = b ∧ j = a))) := by
  unfold tog
  by_cases h1 : i = b
  · subst h1
    rw [if_pos rfl, Nat.testBit_xor, Nat.testBit_two_pow]
    have : decide (i = a ∧ j = i) = false := decide_eq_false (fun z => hab z.1.symm)
    rw [this, Bool.false_or, show decide (a = j) = decide (i = i ∧ j = a) from decide_eq_decide.mpr ⟨fun z => ⟨rfl, z.symm⟩, fun z => z.2.symm⟩]
  · rw [if_neg h1]
    by_cases h2 : i = a
    · subst h2
      rw [if_pos rfl, Nat.testBit_xor, Nat.testBit_two_pow]
      have : decide (i = b ∧ j = i) = false := decide_eq_false (fun z => h1 z.1)
      rw [this, Bool.or_false, show decide (b = j) = decide (i = i ∧ j = b) from decide_eq_decide.mpr ⟨fun z => ⟨rfl, z.symm⟩, fun z => z.2.symm⟩]
    · rw [if_neg h2, decide_eq_false (fun z => h2 z.1), decide_eq_false (fun z => h1 z.1)]
      simp
theorem GW_tog {a b : Nat} (G : GW n N) (hab : a ≠ b) (ha : a < n) (hb : b < n) : GW n (tog N a b) := by
  obtain ⟨g1, g2, g3, g4, g5, g6⟩ := G
  have hp : ∀ c, c < n → 2 ^ c < 2 ^ n := fun c hc => Nat.pow_lt_pow_right (by decide) hc
  refine ⟨g1, g2, fun i => ?_, fun i hi => ?_, fun i j => ?_, fun i => ?_⟩
  · unfold tog
    split
    · exact Nat.xor_lt_two_pow (g3 b) (hp a ha)
    · split
      · exact Nat.xor_lt_two_pow (g3 a) (hp b hb)
      · exact g3 i
  · unfold tog
    rw [if_neg (by omega), if_neg (by omega)]
    exact g4 i hi
  · rw [tb_tog hab, tb_tog hab, g5 i j]
    congr 1
    rw [Bool.or_comm]
    congr 1
    · exact decide_eq_decide.mpr ⟨fun z => ⟨z.2, z.1⟩, fun z => ⟨z.2, z.1⟩⟩
    · exact decide_eq_decide.mpr ⟨fun z => ⟨z.2, z.1⟩, fun z => ⟨z.2, z.1⟩⟩
  · rw [tb_tog hab, g6, decide_eq_false (fun z => hab (z.1.symm.trans z.2)), decide_eq_false (fun z => hab (z.2.symm.trans z.1))]
    rfl
/-- how many doors -/
def dc2 (n : Nat) (N : Nat → Nat) : Nat := fl (fun k a => a + pc (N k)) n 0
theorem dc2_le (N : Nat → Nat) : ∀ n, dc2 n N ≤ 9 * n
  | 0 => Nat.le_refl _
  | n + 1 => by
    have h1 := dc2_le N n
    have h2 := pc_le (N n)
    show dc2 n N + pc (N n) ≤ 9 * (n + 1)
    omega
theorem I_half : ∀ s : Nat, s < 100 → I s / (2 : Int32) = I (s / 2) := by decide +kernel
theorem sp46 {p : Nat} (hd : 1 ≤ d) (hR : GR w n N) (G : GW n N) (hp9 : p ≤ 9) : Ev d 46 (ent0 46 [.ref 2, .int (I p)] (hp E w)) (.inl (some (.int (bI (decide (p < n) || decide (p = 9))))), hp E w) := by
  have hn := G.n9
  have h := sp41 (E := E) (d := d - 1) (x := I p) hR
  rw [isR_I (by omega) hn] at h
  by_cases h1 : p < n
  · rw [decide_eq_true h1] at h ⊢
    exact p46_e_c hd h (by decide)
  · rw [decide_eq_false h1] at h ⊢
    by_cases h2 : p = 9
    · rw [decide_eq_true h2]
      exact p46_e_a hd h rfl (by rw [h2]; rfl)
    · rw [decide_eq_false h2]
      exact p46_e_b hd h rfl (fun z => h2 ((I_inj (by omega) (by omega)).mp (show I p = I 9 from z)))
theorem sp47 {r : Nat} (hd : 1 ≤ d) (hR : GR w n N) (hr : r ≤ 9) : Ev d 47 (ent0 47 [.ref 2, .int (I r)] (hp E w)) (.inl (some (.int (I (N r ||| 2 ^ r)))), hp E w) :=
  p47_e_a hd rfl (by omega) (by rw [hR.2, I_pow (by omega), I_or])
theorem sp48 {a b : Nat} (hd : 1 ≤ d) (hR : GR w n N) (G : GW n N) (ha : a ≤ 9) (hb : b ≤ 9) : Ev d 48 (ent0 48 [.ref 2, .int (I a), .int (I b)] (hp E w)) (.inl (some (.int (bI (nr N a b)))), hp E w) := by
  have hN := tb_big (G.lt a)
  by_cases h : a = b
  · subst h
    rw [nr_self]
    exact p48_e_c rfl
  · have hne : ¬ I a = I b := fun z => h ((I_inj (by omega) (by omega)).mp z)
    unfold nr
    rw [decide_eq_false h, Bool.false_or]
    cases hb2 : (N a).testBit b with
    | true => exact p48_e_a hd hne rfl (by omega) (by rw [hR.2]; exact bit0T hN (by omega) hb2)
    | false => exact p48_e_b hd hne rfl (by omega) (by rw [hR.2]; exact bit0F hN (by omega) hb2)
/-- the rooms next to some of a set -/
def nts (n : Nat) (N : Nat → Nat) (s : Nat) : Nat := fl (fun k a => if s.testBit k = true then a ||| N k else a) n 0
theorem fl_inv {α : Type} {f : Nat → α → α} {P : α → Prop} {a0 : α} (h0 : P a0) {n : Nat} (hs : ∀ k a, k < n → P a → P (f k a)) : P (fl f n a0) := by
  induction n with
  | zero => exact h0
  | succ n ih => exact hs n _ (by omega) (ih (fun k a hk => hs k a (by omega)))
theorem nts_lt (G : GW n N) (s : Nat) : nts n N s < 2 ^ n :=
  fl_inv (P := fun a => a < 2 ^ n) (Nat.two_pow_pos n) (fun k a _ ha => by
    split
    · exact Nat.or_lt_two_pow ha (G.2.2.1 k)
    · exact ha)
theorem nts_lt9 (G : GW n N) (s : Nat) : nts n N s < 512 := Nat.lt_of_lt_of_le (nts_lt G s) (two_pow_le G.n9)
theorem tb_nts (n : Nat) (N : Nat → Nat) (s j : Nat) : (nts n N s).testBit j = anyB n (fun k => s.testBit k && (N k).testBit j) := by
  unfold nts anyB
  induction n with
  | zero => simp [fl]
  | succ n ih =>
    show (if s.testBit n = true then _ ||| N n else _ : Nat).testBit j = (fl (fun k a => a || (s.testBit k && (N k).testBit j)) n false || (s.testBit n && (N n).testBit j))
    rw [← ih]
    cases s.testBit n with
    | true => simp
    | false => simp
theorem sp49 {s : Nat} (hd : 2 ≤ d) (hR : GR w n N) (G : GW n N) (hs : s < 512) : Ev d 49 (ent0 49 [.ref 2, .int (I s)] (hp E w)) (.inl (some (.int (I (nts n N s)))), hp E w) := by
  have hn := G.n9
  refine p49_e_a ?_
  refine loop_up (P := fun j a => (4, [.ref 2, .int (I s), .int (I a), .int (I j)], [], hp E w)) (fun k a => if s.testBit k = true then a ||| N k else a) n 0 (fun j hj e => ?_) ?_
  · by_cases hb : s.testBit j = true
    · rw [if_pos hb] at e
      exact p49_4_a hd (lt_n hR.1 hn hj) (bit0T (tb_big hs) (by omega) hb) rfl (by omega) (by rw [hR.2, I_or]) (I_add _ _) e
    · rw [if_neg hb] at e
      exact p49_4_b (lt_n hR.1 hn hj) (bit0F (tb_big hs) (by omega) (by simpa using hb)) (I_add _ _) e
  · exact p49_4_c (nlt_n hR.1 hn (Nat.le_refl _) (by omega))
theorem sp50 {s r : Nat} (hd : 3 ≤ d) (hR : GR w n N) (G : GW n N) (hs : s < 512) (hr : r < 9) : Ev d 50 (ent0 50 [.ref 2, .int (I s), .int (I r)] (hp E w)) (.inl (some (.int (I (nts n N (nd s (2 ^ r)))))), hp E w) :=
  p50_e_a (by omega) (by rw [I_pow (by omega), I_nd _ hs]) (sp49 (by omega) hR G (nd_lt hs))
end
