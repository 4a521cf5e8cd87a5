/-! Small things that the path lemmas name. -/
section
theorem Ev.tswD {d k pc n : Nat} {x1 : Nat × Nat × Nat} {M : Mt} {D lo hi : Int} {offs : Array Int} {x : Int32} {L S : List Value} {h : AH} {o : Ou} (hM : mAt k = some M) (hr : rAtM M pc = some (.tableswitch D lo hi offs, n, x1)) (hc : decide (x.toInt < lo ∨ hi < x.toInt) = true) (e : Ev d k (((pc : Int) + D).toNat, L, S, h) o) : Ev d k (pc, L, .int x :: S, h) o :=
  Ev.step hM hr (by simp only [stp, hc]) e
theorem hM_8 : mAt 8 = some km_X1_pair := rfl
theorem hM_9 : mAt 9 = some km_X1_cell := rfl
theorem pair_spec {d : Nat} {a b : Int32} {h : AH} : Ev d 8 (ent0 8 [.int a, .int b] h) (.inl (some (.int ((a * (10 : Int32)) + b))), h) :=
  Ev.run (c' := (6, [.int a, .int b], [.int ((a * (10 : Int32)) + b)], h)) hM_8 5 rfl (Ev.fin hM_8 rfl rfl)
theorem cell_spec {d : Nat} {a b c : Int32} {h : AH} (hd : 2 ≤ d) : Ev (d - 1) 9 (ent0 9 [.int a, .int b, .int c] h) (.inl (some (.int ((((a * (10 : Int32)) + b) * (9 : Int32)) + c))), h) := by
  refine Ev.run (c' := (2, [.int a, .int b, .int c], [.int b, .int a], h)) hM_9 2 rfl ?_
  refine Ev.callR (by omega) hM_9 rfl (y := 8) (as := [.int a, .int b]) (rest := []) rfl (by decide) pair_spec ?_
  exact Ev.run (c' := (10, [.int a, .int b, .int c], [.int ((((a * (10 : Int32)) + b) * (9 : Int32)) + c)], h)) hM_9 4 rfl (Ev.fin hM_9 rfl rfl)
theorem hM_39 : mAt 39 = some km_X4_size := rfl
theorem hM_40 : mAt 40 = some km_X4_version := rfl
theorem hM_30 : mAt 30 = some km_X3_count := rfl
theorem hM_26 : mAt 26 = some km_X2_least := rfl
theorem hM_68 : mAt 68 = some km_X7_rabbit := rfl
theorem Ev.finZ {d k pc n : Nat} {x : Nat × Nat × Nat} {M : Mt} {v : Int32} {L : List Value} {h : AH} (hM : mAt k = some M) (hr : rAtM M pc = some (.ireturn, n, x)) (ht : M.2.2.2.1 = some .boolean) (hb : v &&& 1 = v) : Ev d k (pc, L, [.int v], h) (.inl (some (.int v)), h) :=
  Ev.fin hM hr (by
    have : rtok M.2.2.2.1 v = true := by rw [ht]; exact decide_eq_true hb
    show (match rtok M.2.2.2.1 v with | true => some (((Sum.inl (some (Value.int v))), h) : Ou) | false => none) = _
    rw [this])
end
