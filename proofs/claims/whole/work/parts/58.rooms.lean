/-! THE OPERATIONS rabbit, rooms. -/
section
variable {E : Nat × (Nat → Int32)} {w : Wd} {d n s v : Nat} {N : Nat → Nat} {D : DL} {x y z t : Int32}
theorem hM_127 : mAt 127 = some km_X8_rabbit := rfl
theorem sp127 : Ev d 127 (ent0 127 [.ref 27] (hp E w)) (.inl (some (.int (gF w 10))), hp E (sF 8 0 w)) :=
  Ev.run (c' := (9, [.ref 27], [.int (gF w 10)], hp E (sF 8 0 w))) hM_127 5 rfl (Ev.fin hM_127 rfl rfl)
theorem GW_zero {m : Nat} (h1 : 1 ≤ m) (h9 : m ≤ 9) : GW m (fun _ => 0) :=
  ⟨h1, h9, fun _ => Nat.two_pow_pos m, fun _ _ => rfl, fun _ _ => by simp, fun _ => by simp⟩
theorem rv_ra (f : Nat → Int32) (r : Nat) : rv 9 (ra 9 f 0) r = I 0 := by
  unfold rv ra
  split <;> rfl
/-- a new graph, in the class -/
def cbg (m : Nat) (w : Wd) : Wd := sF 2 (gF w 2 + 1) (sA 0 (ra 9 (gA w 0) 0) (sF 1 (I m) w))
theorem sp39 {m : Nat} (hd : 1 ≤ d) (h1 : 1 ≤ m) (h9 : m ≤ 9) : Ev d 39 (ent0 39 [.ref 2, .int (I m)] (hp E w)) (.inl none, hp E (cbg m w)) := by
  refine p39_e_a hd ?_
  have e1 : (if (9 : Int32) < I m then (9 : Int32) else I m) = I m := if_neg (fun z => by have := (I_lt (a := 9) (by omega) (by omega)).mp z; omega)
  have e2 : (if (1 : Int32) < I m then I m else (1 : Int32)) = I m := by
    by_cases h : (1 : Int32) < I m
    · rw [if_pos h]
    · rw [if_neg h]
      have : ¬ 1 < m := fun z => h ((I_lt (a := 1) (by omega) (by omega)).mpr z)
      rw [show m = 1 by omega]; rfl
  rw [e1, e2]
  rfl
theorem GR_cbg {m : Nat} : GR (cbg m w) m (fun _ => 0) := ⟨rfl, fun r => rv_ra _ r⟩
theorem sp89 {m : Nat} {N : Nat → Nat} (hd : 1 ≤ d) (hR : GR w m N) (G : GW m N) : Ev d 89 (ent0 89 [.ref 1] (hp E w)) (.inl none, hp E (sF 0 (I (2 ^ m - 1)) (sF 3 0 w))) :=
  p89_e_a hd (p32_e_a rfl) (sp45 (w := sF 3 0 w) (by exact hR) G) rfl
theorem MR_bg {m : Nat} (h : gF w 9 = I m) : MR (sA 10 (ra 9 (gA w 10) 0) w) m (fun _ => 0) := ⟨h, fun r h9 => by
  show ra 9 (gA w 10) 0 r = I 0
  unfold ra
  rw [if_pos h9]; rfl⟩
theorem op_rooms (hd : 40 ≤ d) (S : Sim w n N s D v) : AGW E w v d 139 [.ref 1, .int x, .ref 37] 102 [.ref 27, .int x] := by
  by_cases x1 : x < 1
  · exact agw_throw S (by decide) (p139_e_a (by omega) (p69_e_c x1 rfl)) (p102_e_c (by omega) x1 sp97)
  · by_cases x9 : (9 : Int32) < x
    · exact agw_throw S (by decide) (p139_e_a (by omega) (p69_e_a x1 x9 rfl)) (p102_e_a (by omega) x1 x9 sp97)
    · obtain ⟨m, hm, rfl⟩ := nn_ex (k := 9) (by decide) (lt1_lt0 x1) x9
      have h1 : 1 ≤ m := by
        rcases Nat.eq_zero_or_pos m with h | h
        · rw [h] at x1; exact absurd (by decide) x1
        · exact h
      obtain ⟨G, hs, hl2, hD, ⟨k1, k2, k3, k4, k5, k6, k7, k8⟩, ⟨m1, m2, m3, m4⟩⟩ := S
      have hG := GW_zero h1 hm
      have e1 := p139_e_b (E := E) (d := d) (by omega) (p69_e_b (by omega) x1 x9 (sp39 (w := w) (by omega) h1 hm) (sp89 (by omega) GR_cbg hG) k1.1) rfl
      generalize hW : sF 0 (I (2 ^ m - 1)) (sF 3 0 (cbg m w)) = W at e1
      have W1 : gF W 9 = I n := by rw [← hW]; exact m1.1
      have e2 := p102_e_b (E := E) (d := d) (w := so1 (I n).toInt64 W) (by omega) x1 x9 (sp101 (n := m) rfl hm (by omega)) W1
      have hp := Nat.two_pow_pos m
      refine ⟨_, _, _, _, e1, e2, rfl, fun _ => gO_so1, m, fun _ => 0, 2 ^ m - 1, [], v + 1, ⟨hG, by omega, Nat.zero_le _, trivial, ⟨?_, ?_, ?_, ?_, trivial, ?_, ?_, ?_⟩, ⟨MR_bg (w := sF 9 (I m) (sF 8 0 (so1 (I n).toInt64 W))) rfl, rfl, rfl, trivial⟩⟩, by omega, ?_⟩
      · rw [← hW]; exact GR_cbg (w := w)
      · rw [← hW]; rfl
      · rw [← hW]; show gF w 2 + 1 = I (v + 1); rw [k3]; exact I_add v 1
      · rw [← hW]; rfl
      · rw [← hW]; exact cach_new k6 (Nat.lt_succ_self _)
      · rw [← hW]; exact cach_new k7 (Nat.lt_succ_self _)
      · rw [← hW]; exact cach_new k8 (Nat.lt_succ_self _)
      · rw [← hW]; exact Nat.le_succ _
end
