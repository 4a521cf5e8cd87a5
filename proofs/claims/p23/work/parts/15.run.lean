/-! RUNNING THE ABSTRACT MACHINE: the world as numbers, several steps at once, branches, calls. -/
section
/-- arrays by number, int fields by number, the law's own long, how many throws -/
abbrev Wd : Type := (Nat → Nat → Int32) × (Nat → Int32) × (Nat → Int64) × Nat
abbrev gA (w : Wd) (j : Nat) : Nat → Int32 := w.1 j
abbrev gF (w : Wd) (j : Nat) : Int32 := w.2.1 j
def sA (j : Nat) (f : Nat → Int32) (w : Wd) : Wd := (fun i => bif Nat.beq i j then f else w.1 i, w.2)
def sF (j : Nat) (v : Int32) (w : Wd) : Wd := (w.1, fun i => bif Nat.beq i j then v else w.2.1 i, w.2.2)
def sO (f : Nat → Int64) (w : Wd) : Wd := (w.1, w.2.1, f, w.2.2.2)
def sT (w : Wd) : Wd := (w.1, w.2.1, w.2.2.1, w.2.2.2 + 1)
def hp (E : Nat × (Nat → Int32)) (w : Wd) : AH := (w.2.2.2, [
  .inl (E.1, .inl E.2),
  .inr (6, [.ref 2, .ref 5, .ref 12, .ref 21, .ref 26, .int (gF w 0)]),
  .inr (4, [.ref 3, .int (gF w 1), .int (gF w 2)]), .inr (5, [.ref 4]), .inl (9, .inl (gA w 0)),
  .inr (3, [.ref 6, .ref 8, .ref 10, .int (gF w 3)]), .inr (5, [.ref 7]), .inl (200, .inl (gA w 1)), .inr (5, [.ref 9]), .inl (200, .inl (gA w 2)), .inr (5, [.ref 11]), .inl (200, .inl (gA w 3)),
  .inr (1, [.ref 13, .ref 15, .ref 17, .ref 19, .int (gF w 4)]), .inr (5, [.ref 14]), .inl (810, .inl (gA w 4)), .inr (5, [.ref 16]), .inl (90, .inl (gA w 5)), .inr (5, [.ref 18]), .inl (90, .inl (gA w 6)), .inr (5, [.ref 20]), .inl (90, .inl (gA w 7)),
  .inr (0, [.ref 22, .ref 24, .int (gF w 5)]), .inr (5, [.ref 23]), .inl (512, .inl (gA w 8)), .inr (5, [.ref 25]), .inl (512, .inl (gA w 9)),
  .inr (2, [.int (gF w 6), .int (gF w 7)])])
theorem gA_sA (j i : Nat) (f : Nat → Int32) (w : Wd) : gA (sA j f w) i = if i = j then f else gA w i := by
  by_cases h : i = j
  · subst h; simp [gA, sA]
  · have hb : Nat.beq i j = false := by
      cases hb : Nat.beq i j with
      | true => exact absurd (Nat.eq_of_beq_eq_true hb) h
      | false => rfl
    rw [if_neg h]
    show (bif Nat.beq i j then f else w.1 i) = w.1 i
    rw [hb]; rfl
theorem gA_sA_same (j : Nat) (f : Nat → Int32) (w : Wd) : gA (sA j f w) j = f := by simp [gA, sA]
theorem gF_sF_same (j : Nat) (v : Int32) (w : Wd) : gF (sF j v w) j = v := by simp [gF, sF]
/-- several steps -/
def rn (M : Mt) : Nat → Nat → List Value → List Value → AH → Option Cf
  | 0, pc, L, S, h => some (pc, L, S, h)
  | n + 1, pc, L, S, h => match rAtM M pc with
    | some r => match stp pc r L S h with
      | some (pc', L', S', h') => rn M n pc' L' S' h'
      | none => none
    | none => none
theorem Ev.run {d k : Nat} {M : Mt} {o : Ou} (hM : mAt k = some M) : ∀ (n : Nat) {pc : Nat} {L S : List Value} {h : AH} {c' : Cf}, rn M n pc L S h = some c' → Ev d k c' o → Ev d k (pc, L, S, h) o
  | 0, pc, L, S, h, c', hr, e => by cases hr; exact e
  | n + 1, pc, L, S, h, c', hr, e => by
    unfold rn at hr
    split at hr
    · rename_i r hr1
      split at hr
      · rename_i pc1 L1 S1 h1 hs
        exact Ev.step hM hr1 hs (Ev.run hM n hr e)
      · cases hr
    · cases hr
theorem Ev.icT {d k pc n t x2 x3 : Nat} {M : Mt} {cc : Jvm.ClassFile.Cond} {off : Int} {x y : Int32} {L S : List Value} {h : AH} {o : Ou} (hM : mAt k = some M) (hr : rAtM M pc = some (.if_icmp cc off, n, t, x2, x3)) (hc : cmpI cc x y = true) (e : Ev d k (t, L, S, h) o) : Ev d k (pc, L, .int y :: .int x :: S, h) o :=
  Ev.step hM hr (by simp only [stp, hc, cond_true]) e
theorem Ev.icF {d k pc n t x2 x3 : Nat} {M : Mt} {cc : Jvm.ClassFile.Cond} {off : Int} {x y : Int32} {L S : List Value} {h : AH} {o : Ou} (hM : mAt k = some M) (hr : rAtM M pc = some (.if_icmp cc off, n, t, x2, x3)) (hc : cmpI cc x y = false) (e : Ev d k (pc + 3, L, S, h) o) : Ev d k (pc, L, .int y :: .int x :: S, h) o :=
  Ev.step hM hr (by simp only [stp, hc, cond_false]) e
theorem Ev.ifT {d k pc n t x2 x3 : Nat} {M : Mt} {cc : Jvm.ClassFile.Cond} {off : Int} {x : Int32} {L S : List Value} {h : AH} {o : Ou} (hM : mAt k = some M) (hr : rAtM M pc = some (.ifCond cc off, n, t, x2, x3)) (hc : cmpI cc x 0 = true) (e : Ev d k (t, L, S, h) o) : Ev d k (pc, L, .int x :: S, h) o :=
  Ev.step hM hr (by simp only [stp, hc, cond_true]) e
theorem Ev.ifF {d k pc n t x2 x3 : Nat} {M : Mt} {cc : Jvm.ClassFile.Cond} {off : Int} {x : Int32} {L S : List Value} {h : AH} {o : Ou} (hM : mAt k = some M) (hr : rAtM M pc = some (.ifCond cc off, n, t, x2, x3)) (hc : cmpI cc x 0 = false) (e : Ev d k (pc + 3, L, S, h) o) : Ev d k (pc, L, .int x :: S, h) o :=
  Ev.step hM hr (by simp only [stp, hc, cond_false]) e
theorem Ev.iald {d k pc n m a : Nat} {x : Nat × Nat × Nat} {M : Mt} {f : Nat → Int32} {i : Int32} {L S : List Value} {h : AH} {o : Ou} (hM : mAt k = some M) (hr : rAtM M pc = some (.iaload, n, x)) (ha : h.2[a]? = some (.inl (m, .inl f))) (hi : inb i m = true) (e : Ev d k (pc + 1, L, .int (f i.toNatClampNeg) :: S, h) o) : Ev d k (pc, L, .int i :: .ref a :: S, h) o :=
  Ev.step hM hr (by simp only [stp, ha, hi]) e
theorem Ev.iast {d k pc n m a : Nat} {x : Nat × Nat × Nat} {M : Mt} {f : Nat → Int32} {i v : Int32} {L S : List Value} {h h' : AH} {o : Ou} (hM : mAt k = some M) (hr : rAtM M pc = some (.iastore, n, x)) (ha : h.2[a + 1]? = some (.inl (m, .inl f))) (hi : inb i m = true) (hh : ((h.1, h.2.set (a + 1) (.inl (m, .inl (upd f i.toNatClampNeg v)))) : AH) = h') (e : Ev d k (pc + 1, L, S, h') o) : Ev d k (pc, L, .int v :: .int i :: .ref (a + 1) :: S, h) o :=
  Ev.step hM hr (by simp only [stp, ha, hi, hh]) e
theorem Ev.callR {d k pc y : Nat} {M : Mt} {r : Rw} {L S as rest : List Value} {h h1 : AH} {v : Option Value} {o : Ou} (hd : 1 ≤ d) (hM : mAt k = some M) (hr : rAtM M pc = some r) (hs : cll r S h = some (y, as, rest)) (hl : rest.length ≤ 4) (e1 : Ev (d - 1) y (ent0 y as h) (.inl v, h1)) (e : Ev d k (pc + 3, L, v.toList ++ rest, h1) o) : Ev d k (pc, L, S, h) o := by
  obtain ⟨d', rfl⟩ : ∃ d', d = d' + 1 := ⟨d - 1, by omega⟩
  exact Ev.call hM hr hs hl e1 e
theorem Ev.passR {d k pc y E1 : Nat} {M : Mt} {r : Rw} {L S as rest : List Value} {h h1 : AH} (hd : 1 ≤ d) (hM : mAt k = some M) (hr : rAtM M pc = some r) (hs : cll r S h = some (y, as, rest)) (hl : rest.length ≤ 4) (hn : nsp r = true) (hh : M.2.2.2.2.1 = []) (e1 : Ev (d - 1) y (ent0 y as h) (.inr E1, h1)) : Ev d k (pc, L, S, h) (.inr E1, h1) := by
  obtain ⟨d', rfl⟩ : ∃ d', d = d' + 1 := ⟨d - 1, by omega⟩
  exact Ev.pass hM hr hs hl hn hh e1
theorem cI_eqT {x y : Int32} (h : x = y) : cmpI .eq x y = true := decide_eq_true h
theorem cI_eqF {x y : Int32} (h : ¬ x = y) : cmpI .eq x y = false := decide_eq_false h
theorem cI_neT {x y : Int32} (h : ¬ x = y) : cmpI .ne x y = true := decide_eq_true h
theorem cI_neF {x y : Int32} (h : x = y) : cmpI .ne x y = false := decide_eq_false (fun hn => hn h)
theorem cI_ltT {x y : Int32} (h : x < y) : cmpI .lt x y = true := decide_eq_true h
theorem cI_ltF {x y : Int32} (h : ¬ x < y) : cmpI .lt x y = false := decide_eq_false h
theorem cI_geT {x y : Int32} (h : ¬ x < y) : cmpI .ge x y = true := decide_eq_true (Int32.not_lt.mp h)
theorem cI_geF {x y : Int32} (h : x < y) : cmpI .ge x y = false := decide_eq_false (fun hn => Int32.not_lt.mpr hn h)
theorem cI_gtT {x y : Int32} (h : y < x) : cmpI .gt x y = true := decide_eq_true h
theorem cI_gtF {x y : Int32} (h : ¬ y < x) : cmpI .gt x y = false := decide_eq_false h
theorem cI_leT {x y : Int32} (h : ¬ y < x) : cmpI .le x y = true := decide_eq_true (Int32.not_lt.mp h)
theorem cI_leF {x y : Int32} (h : y < x) : cmpI .le x y = false := decide_eq_false (fun hn => Int32.not_lt.mpr hn h)
/-- numbers as the machine has them -/
abbrev I (n : Nat) : Int32 := Int32.ofNat n
theorem I_add (a b : Nat) : I a + I b = I (a + b) := (Int32.ofNat_add a b).symm
theorem I_mul (a b : Nat) : I a * I b = I (a * b) := (Int32.ofNat_mul a b).symm
theorem I_sub {a b : Nat} (h : b ≤ a) : I a - I b = I (a - b) := by
  have : I a = I (a - b) + I b := by rw [I_add]; congr 1; omega
  rw [this, Int32.add_sub_cancel]
theorem I_toInt {a : Nat} (h : a < 2147483648) : (I a).toInt = a := Int32.toInt_ofNat_of_lt h
theorem I_inj {a b : Nat} (ha : a < 2147483648) (hb : b < 2147483648) : I a = I b ↔ a = b := by
  constructor
  · intro h
    have := congrArg Int32.toInt h
    rw [I_toInt ha, I_toInt hb] at this
    omega
  · intro h; rw [h]
theorem I_lt {a b : Nat} (ha : a < 2147483648) (hb : b < 2147483648) : I a < I b ↔ a < b := by
  rw [Int32.lt_iff_toInt_lt, I_toInt ha, I_toInt hb]; omega
theorem I_clamp {a : Nat} (h : a < 2147483648) : (I a).toNatClampNeg = a := by
  rw [Int32.toNatClampNeg, I_toInt h]; rfl
theorem I_nneg {a : Nat} (h : a < 2147483648) : ¬ I a < 0 := by
  rw [show (0 : Int32) = I 0 from rfl, I_lt h (by decide)]; omega
theorem inb_I {a n : Nat} (h : a < n) (hn : n ≤ 2147483648) : inb (I a) n = true := by
  have ha : a < 2147483648 := by omega
  refine decide_eq_true ?_
  rw [I_clamp ha]
  rintro (h1 | h1)
  · exact I_nneg ha h1
  · omega
theorem I_bv (a : Nat) : (I a).toBitVec = BitVec.ofNat 32 a := rfl
theorem I_and (a b : Nat) : I a &&& I b = I (a &&& b) := Int32.toBitVec_inj.mp (by
  rw [Int32.toBitVec_and, I_bv, I_bv, I_bv, BitVec.ofNat_and])
theorem I_or (a b : Nat) : I a ||| I b = I (a ||| b) := Int32.toBitVec_inj.mp (by
  rw [Int32.toBitVec_or, I_bv, I_bv, I_bv, BitVec.ofNat_or])
theorem I_xor (a b : Nat) : I a ^^^ I b = I (a ^^^ b) := Int32.toBitVec_inj.mp (by
  rw [Int32.toBitVec_xor, I_bv, I_bv, I_bv, BitVec.ofNat_xor])
theorem I_shl1 : ∀ j : Nat, j < 31 → I 1 <<< (I j &&& 31) = I (2 ^ j) := by decide +kernel
theorem I_shl (a : Nat) {j : Nat} (h : j < 31) : I a <<< (I j &&& 31) = I (a * 2 ^ j) := by
  have e : I j &&& 31 = I j := by
    rw [show (31 : Int32) = I 31 from rfl, I_and]
    congr 1
    exact Nat.and_two_pow_sub_one_of_lt_two_pow (n := 5) (by omega)
  rw [e]
  refine Int32.toBitVec_inj.mp ?_
  rw [Int32.toBitVec_shiftLeft, I_bv, I_bv, I_bv]
  apply BitVec.eq_of_toNat_eq
  have e2 : (BitVec.ofNat 32 j).smod 32 = BitVec.ofNat 32 j := by
    have : ∀ j : Nat, j < 31 → (BitVec.ofNat 32 j).smod 32 = BitVec.ofNat 32 j := by decide +kernel
    exact this j h
  rw [e2]
  simp only [BitVec.shiftLeft_eq', BitVec.toNat_shiftLeft, BitVec.toNat_ofNat]
  rw [Nat.mod_eq_of_lt (show j < 2 ^ 32 by omega), Nat.shiftLeft_eq, Nat.mod_mul_mod]
theorem I_shr {a j : Nat} (ha : a < 2147483648) (h : j < 31) : I a >>> (I j &&& 31) = I (a / 2 ^ j) := by
  have e : I j &&& 31 = I j := by
    rw [show (31 : Int32) = I 31 from rfl, I_and]
    congr 1
    exact Nat.and_two_pow_sub_one_of_lt_two_pow (n := 5) (by omega)
  rw [e]
  refine Int32.toBitVec_inj.mp ?_
  rw [Int32.toBitVec_shiftRight, I_bv, I_bv, I_bv]
  have e2 : (BitVec.ofNat 32 j).smod 32 = BitVec.ofNat 32 j := by
    have : ∀ j : Nat, j < 31 → (BitVec.ofNat 32 j).smod 32 = BitVec.ofNat 32 j := by decide +kernel
    exact this j h
  rw [e2]
  apply BitVec.eq_of_toNat_eq
  have hm : (BitVec.ofNat 32 a).msb = false := by
    rw [BitVec.msb_eq_false_iff_two_mul_lt, BitVec.toNat_ofNat, Nat.mod_eq_of_lt (by omega)]
    omega
  rw [BitVec.sshiftRight_eq', BitVec.sshiftRight_eq_of_msb_false hm, BitVec.toNat_ushiftRight, BitVec.toNat_ofNat, BitVec.toNat_ofNat, BitVec.toNat_ofNat, Nat.mod_eq_of_lt (show j < 2 ^ 32 by omega), Nat.mod_eq_of_lt (show a < 2 ^ 32 by omega), Nat.shiftRight_eq_div_pow]
  rw [Nat.mod_eq_of_lt]
  exact Nat.lt_of_le_of_lt (Nat.div_le_self _ _) (by omega)
end
