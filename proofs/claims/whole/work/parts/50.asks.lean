/-! THE CHASE, reference: its answers. -/
section
variable {E : Nat × (Nat → Int32)} {w : Wd} {d n : Nat} {N : Nat → Nat}
/-- the second cop as the call names it -/
def PB (n : Nat) (x : Int32) (b : Nat) : Prop := (x = -1 ∧ b = 9) ∨ (x = I b ∧ b < n ∧ ¬ x = -1)
theorem PB.pl {x : Int32} {b : Nat} (h : PB n x b) : pl n b := by
  rcases h with h | h
  · exact Or.inr h.2
  · exact Or.inl h.2.1
theorem areR_ex {x y z : Int32} (hn : n ≤ 9) (h : areR n x y z = true) : ∃ a b r, x = I a ∧ a < n ∧ PB n y b ∧ z = I r ∧ r < n := by
  unfold areR at h
  rw [Bool.and_eq_true, Bool.and_eq_true, Bool.or_eq_true] at h
  obtain ⟨h1, h2, h3⟩ := h
  obtain ⟨a, ha, e1⟩ := isR_ex h1 hn
  obtain ⟨r, hr, e3⟩ := isR_ex h3 hn
  by_cases hm : y = -1
  · exact ⟨a, 9, r, e1, ha, Or.inl ⟨hm, rfl⟩, e3, hr⟩
  · rcases h2 with h2 | h2
    · exact absurd (of_decide_eq_true h2) hm
    · obtain ⟨b, hb, e2⟩ := isR_ex h2 hn
      exact ⟨a, b, r, e1, ha, Or.inr ⟨e2, hb, hm⟩, e3, hr⟩
/-- filled, as the call wants it -/
theorem sp118p {x : Int32} {b : Nat} (hd : 3 ≤ d) (hR : MR w n N) (G : GW n N) (hb : PB n x b) : ∃ f g fb lb, (x = -1 → Ev d 118 (ent0 118 [.ref 27, .int 1] (hp E w)) (.inl none, hp E (tw f g w))) ∧ (¬ x = -1 → Ev d 118 (ent0 118 [.ref 27, .int 0] (hp E w)) (.inl none, hp E (tw f g w))) ∧ FL (tw f g w) n N fb lb ∧ RG n N fb lb ∧ fb ≤ b ∧ b ≤ lb := by
  rcases hb with ⟨e1, e2⟩ | ⟨e1, e2, e3⟩
  · obtain ⟨f, g, e, h⟩ := sp118o (E := E) (x1 := 1) hd hR G (by decide)
    exact ⟨f, g, 9, 9, fun _ => e, fun z => absurd e1 z, h, RG_one G, by omega, by omega⟩
  · obtain ⟨f, g, e, h⟩ := sp118t (E := E) hd hR G
    exact ⟨f, g, 0, n - 1, fun z => absurd z e3, fun _ => e, h, RG_two G, Nat.zero_le _, by omega⟩
theorem MR0 (hR : MR w n N) : MR (sF 8 0 w) n N := hR
theorem sp120 {x : Int32} {a b r : Nat} (hd : 4 ≤ d) (hR : MR w n N) (G : GW n N) (ha : a < n) (hb : PB n x b) (hr : r < n) (hq : areR n (I a) x (I r) = true) : ∃ f g, Ev d 120 (ent0 120 [.ref 27, .int (I a), .int x, .int (I r)] (hp E w)) (.inl (some (.int (tv (tau n N a b r)))), hp E (tw f g (sF 8 0 w))) := by
  have hn := G.n9
  have h0 := sp119 (E := E) (w := sF 8 0 w) (d := d - 1) (a := I a) (b := x) (c := I r) (by omega) hR
  rw [hq] at h0
  obtain ⟨f, g, fb, lb, e1, e2, hF, hg, hb1, hb2⟩ := sp118p (E := E) (w := sF 8 0 w) (d := d - 1) (by omega) (MR0 hR) G hb
  refine ⟨f, g, ?_⟩
  have hv := (hF a b r ha hb1 hb2 hr).1
  have hci := cl_lt (show a < 9 by omega) (pl9 hn hb.pl) (show r < 9 by omega)
  have t9 := tau_le (n := n) (N := N) a b r
  unfold tv
  rcases hb with ⟨c1, c2⟩ | ⟨c1, c2, c3⟩
  · subst c2
    by_cases h : tau n N a 9 r < 99
    · rw [if_pos h]
      exact p120_e_c (by omega) h0 (by decide) c1 (e1 c1) c1 (I_cl a 9 r) hci (by rw [hv, show (99 : Int32) = I 99 from rfl, I_inj (by omega) (by omega)]; omega) hv
    · rw [if_neg h]
      exact p120_e_b (by omega) h0 (by decide) c1 (e1 c1) c1 (I_cl a 9 r) hci (by rw [hv, show tau n N a 9 r = 99 by omega]; rfl)
  · have gi : ((((I a * (10 : Int32)) + x) * (9 : Int32)) + I r) = I (cl a b r) := by rw [c1]; exact I_cl a b r
    by_cases h : tau n N a b r < 99
    · rw [if_pos h]
      exact p120_e_i (by omega) h0 (by decide) c3 (e2 c3) c3 gi hci (by rw [hv, show (99 : Int32) = I 99 from rfl, I_inj (by omega) (by omega)]; omega) hv
    · rw [if_neg h]
      exact p120_e_h (by omega) h0 (by decide) c3 (e2 c3) c3 gi hci (by rw [hv, show tau n N a b r = 99 by omega]; rfl)
theorem sp121 {x : Int32} {a b r most : Nat} (hd : 4 ≤ d) (hR : MR w n N) (G : GW n N) (ha : a < n) (hb : PB n x b) (hr : r < n) (hm : most ≤ 3) (hq : areR n (I a) x (I r) = true) : ∃ f g, Ev d 121 (ent0 121 [.ref 27, .int (I a), .int x, .int (I r), .int (I most)] (hp E w)) (.inl (some (.int (tma n N most a b r))), hp E (tw f g (sF 8 0 w))) := by
  have hn := G.n9
  have h0 := sp119 (E := E) (w := sF 8 0 w) (d := d - 1) (a := I a) (b := x) (c := I r) (by omega) hR
  rw [hq] at h0
  obtain ⟨f, g, fb, lb, e1, e2, hF, hg, hb1, hb2⟩ := sp118p (E := E) (w := sF 8 0 w) (d := d - 1) (by omega) (MR0 hR) G hb
  refine ⟨f, g, ?_⟩
  have hv := (hF a b r ha hb1 hb2 hr).1
  have hci := cl_lt (show a < 9 by omega) (pl9 hn hb.pl) (show r < 9 by omega)
  have t9 := tau_le (n := n) (N := N) a b r
  have m0 : ¬ I most < 0 := I_nneg (by omega)
  have m3 : ¬ (3 : Int32) < I most := fun z => by have := (I_lt (a := 3) (by omega) (by omega)).mp z; omega
  unfold tma
  rcases hb with ⟨c1, c2⟩ | ⟨c1, c2, c3⟩
  · subst c2
    by_cases h : tau n N a 9 r ≤ most
    · rw [if_pos h]
      exact p121_e_d (by omega) h0 (by decide) m0 m3 c1 (e1 c1) c1 (I_cl a 9 r) hci (by rw [hv, I_lt (by omega) (by omega)]; omega) hv
    · rw [if_neg h]
      exact p121_e_c (by omega) h0 (by decide) m0 m3 c1 (e1 c1) c1 (I_cl a 9 r) hci (by rw [hv, I_lt (by omega) (by omega)]; omega)
  · have gi : ((((I a * (10 : Int32)) + x) * (9 : Int32)) + I r) = I (cl a b r) := by rw [c1]; exact I_cl a b r
    by_cases h : tau n N a b r ≤ most
    · rw [if_pos h]
      exact p121_e_j (by omega) h0 (by decide) m0 m3 c3 (e2 c3) c3 gi hci (by rw [hv, I_lt (by omega) (by omega)]; omega) hv
    · rw [if_neg h]
      exact p121_e_i (by omega) h0 (by decide) m0 m3 c3 (e2 c3) c3 gi hci (by rw [hv, I_lt (by omega) (by omega)]; omega)
end
