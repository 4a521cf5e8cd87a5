/-! THE LAW: the loop to its end; what is wanted, from CAP. -/
section
variable {E : Nat × (Nat → Int32)} {w : Wd} {d n s v at0 : Nat} {N : Nat → Nat} {D : DL}
theorem at_out (h : E.1 < at0 + 5) (hE : E.1 ≤ 2560) (ha : at0 < 2147483648) : ((I E.1) - (5 : Int32)) < I at0 := by
  by_cases h5 : 5 ≤ E.1
  · rw [show I E.1 - (5 : Int32) = I (E.1 - 5) from I_sub (b := 5) h5, I_lt (by omega) ha]
    omega
  · rw [Int32.lt_iff_toInt_lt, I_toInt ha]
    have h' : E.1 = 0 ∨ E.1 = 1 ∨ E.1 = 2 ∨ E.1 = 3 ∨ E.1 = 4 := by omega
    have key : (I E.1 - (5 : Int32)).toInt < 0 := by
      rcases h' with h' | h' | h' | h' | h' <;> rw [h'] <;> decide
    omega
theorem law_loop (K : ∀ n N, GW n N → CAP n N) (hd : 100 ≤ d) (hE : E.1 ≤ 2560) : ∀ (m : Nat) {w : Wd} {n s v at0 : Nat} {N : Nat → Nat} {D : DL}, E.1 < at0 + 5 + 5 * m → at0 ≤ 100000 → m ≤ 1000 → v + 100 * m ≤ 200000 → Sim w n N s D v → ∃ w2, (∀ u5 u6, Ev d 153 (23, HD at0 u5 u6, [], hp E w) (.inl (some (.int 1)), hp E w2)) ∧ w2.2.2.2 ≤ w.2.2.2 + m
  | m, w, n, s, v, at0, N, D, hm, ha, hm2, hv, S => by
    by_cases h : E.1 < at0 + 5
    · exact ⟨w, fun u5 u6 => p153_23_47 (at_out h hE (by omega)), Nat.le_add_right _ _⟩
    · cases m with
      | zero => omega
      | succ m =>
        obtain ⟨w1, ⟨n', N', s', D', v', S', hv', ht⟩, e⟩ := law_step (E := E) (d := d) (at0 := at0) hd (by omega) hE S (K n N S.gw) (by omega)
        obtain ⟨w2, e2, h2⟩ := law_loop K hd hE m (at0 := at0 + 5) (by omega) (by omega) (by omega) (by omega) S'
        exact ⟨w2, fun u5 u6 => e u5 u6 _ e2, by omega⟩
theorem sim_00 : Sim w00 1 (fun _ => 0) 1 [] 0 := by
  refine ⟨GW_zero (Nat.le_refl _) (by decide), by decide, Nat.zero_le _, trivial, ⟨⟨rfl, fun r => ?_⟩, rfl, rfl, rfl, trivial, Or.inl rfl, Or.inl rfl, Or.inl rfl⟩, ⟨⟨rfl, fun _ _ => rfl⟩, rfl, rfl, trivial⟩⟩
  unfold rv
  split <;> rfl
theorem cnt_hp : cnt (hp E w) = w.2.2.2 + 38 := rfl
theorem slt_hp : slt (hp E w) = 6 * w.2.2.2 + (E.1 + 6213) := by
  unfold slt hp
  simp only [List.map_cons, List.map_nil, List.sum_cons, List.sum_nil, osz, List.length_cons, List.length_nil]
  rfl
theorem law_ok (K : ∀ n N, GW n N → CAP n N) : LawOK := by
  intro Ls xs hL
  obtain ⟨w2, e, h⟩ := law_loop (E := (Ls, xs)) (d := 1000) K (by decide) hL 512 (at0 := 0) (by show Ls < 0 + 5 + 5 * 512; omega) (by decide) (by decide) (by decide) sim_00
  refine ⟨hp (Ls, xs) w2, law_begin (by decide) (by rw [hz_last]; exact e _ _), ?_, ?_⟩
  · rw [cnt_hp]
    have : w2.2.2.2 ≤ 0 + 512 := h
    omega
  · rw [slt_hp]
    have : w2.2.2.2 ≤ 0 + 512 := h
    show 6 * w2.2.2.2 + (Ls + 6213) ≤ 7293034
    omega
end
