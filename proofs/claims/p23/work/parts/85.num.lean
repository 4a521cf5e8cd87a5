/-! THE LAW'S OWN NUMBERS: cell, at, size. -/
section
variable {E : Nat × (Nat → Int32)} {w : Wd} {d : Nat}
theorem I_div {a b : Nat} (ha : a < 2147483648) (hb : b < 2147483648) : I a / I b = I (a / b) := by
  have hq : a / b < 2147483648 := Nat.lt_of_le_of_lt (Nat.div_le_self a b) ha
  apply Int32.toInt_inj.mp
  rw [Int32.toInt_div_of_ne_right _ _ (I_ne_m1 hb), I_toInt ha, I_toInt hb, I_toInt hq]
  exact Int.ofNat_tdiv a b
theorem I_rem {a b : Nat} (ha : a < 2147483648) (hb : b < 2147483648) : I a - I a / I b * I b = I (a % b) := by
  rw [I_div ha hb, I_mul, I_sub (Nat.div_mul_le_self a b)]
  congr 1
  have := Nat.mod_add_div a b
  rw [Nat.mul_comm] at this
  omega
theorem I_half_u {m : Nat} (hm : m < 2147483648) : ((I m).toUInt32 >>> ((1 : Int32).toUInt32 &&& Int32.toUInt32 31)).toInt32 = I (m / 2) := by
  have e1 : ((1 : Int32).toUInt32 &&& Int32.toUInt32 31) = (1 : UInt32) := by decide
  rw [e1]
  have e2 : (I m).toUInt32 >>> (1 : UInt32) = UInt32.ofNat (m / 2) := by
    apply UInt32.toNat_inj.mp
    rw [UInt32.toNat_shiftRight]
    show (UInt32.ofNat m).toNat >>> 1 = (UInt32.ofNat (m / 2)).toNat
    rw [UInt32.toNat_ofNat', UInt32.toNat_ofNat', Nat.mod_eq_of_lt (show m < 2 ^ 32 by omega), Nat.mod_eq_of_lt (show m / 2 < 2 ^ 32 by omega)]
    exact Nat.shiftRight_eq_div_pow m 1
  rw [e2]
  rfl
theorem and_nn (x : Int32) : ∃ m, m < 2147483648 ∧ x &&& (2147483647 : Int32) = I m := by
  refine ⟨(x.toBitVec &&& (2147483647 : Int32).toBitVec).toNat, ?_, ?_⟩
  · rw [BitVec.toNat_and]
    exact Nat.lt_of_le_of_lt Nat.and_le_right (by decide)
  · apply Int32.toBitVec_inj.mp
    rw [Int32.toBitVec_and, I_bv, BitVec.ofNat_toNat, BitVec.setWidth_eq]
theorem op_cell {k : Nat} (hE : E.1 ≤ 260) (hk : k < 2147483648) : ∃ x, Ev d 80 (ent0 80 [.ref 0, .int (I k)] (hp E w)) (.inl (some (.int x)), hp E w) := by
  by_cases h : I k < I E.1
  · have h1 : k < E.1 := (I_lt hk (by omega)).mp h
    exact ⟨_, p80_e_a h rfl h1 (by omega) rfl⟩
  · exact ⟨_, p80_e_b h rfl⟩
theorem Ev.rem {d k pc n : Nat} {x1 : Nat × Nat × Nat} {M : Mt} {x y : Int32} {L S : List Value} {h : AH} {o : Ou} (hM : mAt k = some M) (hr : rAtM M pc = some (.irem, n, x1)) (hy : ¬ y = 0) (e : Ev d k (pc + 1, L, .int (x - x / y * y) :: S, h) o) : Ev d k (pc, L, .int y :: .int x :: S, h) o :=
  Ev.step hM hr (by simp only [stp, decide_eq_false hy, cond_false]) e
theorem hM_81 : mAt 81 = some km_L_at := rfl
theorem op_at {m k : Nat} (hm : m < 2147483648) (hk : k < 2147483648) (h1 : 1 ≤ k) : Ev d 81 (ent0 81 [.int (I m), .int (I k)] (hp E w)) (.inl (some (.int (I (m / 2 % k)))), hp E w) := by
  refine Ev.run (c' := (4, [.int (I m), .int (I k)], [.int (I k), .int (((I m).toUInt32 >>> ((1 : Int32).toUInt32 &&& Int32.toUInt32 31)).toInt32)], hp E w)) hM_81 4 rfl ?_
  refine Ev.rem hM_81 rfl (fun z => by have := (I_inj (b := 0) hk (by decide)).mp z; omega) ?_
  rw [I_half_u hm, I_rem (Nat.lt_of_le_of_lt (Nat.div_le_self m 2) hm) hk]
  exact Ev.fin hM_81 rfl rfl
theorem I_sr {m j : Nat} (hm : m < 2147483648) (h : j < 31) : I m >>> (I j &&& 31) = I (m / 2 ^ j) := I_shr hm h
theorem op_size {s : Nat} (hs : s < 512) : Ev d 82 (ent0 82 [.int (I s)] (hp E w)) (.inl (some (.int (I (pc s)))), hp E w) := by
  refine p82_e_a ?_
  refine loop_up (P := fun j a => (4, [.int (I s), .int (I a), .int (I j)], [], hp E w)) (fun k a => a + s / 2 ^ k % 2) 9 0 (fun j hj e => ?_) ?_
  · refine p82_4_a ((I_lt (b := 9) (by omega) (by omega)).mpr hj) ?_ (I_add j 1) e
    rw [I_shr (by omega) (by omega), show (1 : Int32) = I 1 from rfl, I_and, Nat.and_one_is_mod, I_add]
  · exact p82_4_b (fun z => Nat.lt_irrefl 9 ((I_lt (a := 9) (b := 9) (by omega) (by omega)).mp z))
end
