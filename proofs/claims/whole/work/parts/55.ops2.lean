/-! THE OPERATIONS that ask, on. -/
section
variable {E : Nat × (Nat → Int32)} {w : Wd} {d n s v : Nat} {N : Nat → Nat} {D : DL} {x y z t : Int32}
theorem Sim.cs (S : Sim w n N s D v) : gF w 0 = I s := S.2.2.2.2.1.2.1
theorem Sim.ms (S : Sim w n N s D v) : gF w 10 = I s := S.2.2.2.2.2.2.1
theorem Sim.sl (S : Sim w n N s D v) : s < 2 ^ n := S.2.1
theorem op_fallsApart (hd : 40 ≤ d) (S : Sim w n N s D v) : AGQ E w v d 81 [.ref 1] 126 [.ref 27] :=
  ⟨_, _, _, p81_e_a (by omega) (sp55 (by omega) S.gr S.gw) (bI_and _), sp126 (by omega) S.mr S.gw, Sim.out S.f8 (Nat.le_succ _)⟩
theorem op_hunt (hd : 40 ≤ d) (S : Sim w n N s D v) (hv : v < 2147483648) : AGQ E w v d 83 [.ref 1] 129 [.ref 27] := by
  obtain ⟨w1, e1, S1, hT, ht⟩ := prep1 (E := E) (d := d - 1) (by omega) S hv
  obtain ⟨f, g, e2⟩ := sp129 (E := E) (w := w1) (d := d) (by omega) S1.mr S.gw S1.ms S.sl
  exact ⟨_, _, _, p83_e_a (by omega) e1 S1.cs (sp4 (by omega) hT S.gw S.sl), e2, Sim.out S1.f8.a17 (Nat.le_succ_of_le (Nat.le_of_eq ht))⟩
theorem op_aim (hd : 40 ≤ d) (S : Sim w n N s D v) (hv : v < 2147483648) : AGQ E w v d 85 [.ref 1] 131 [.ref 27] := by
  obtain ⟨w1, e1, S1, hT, ht⟩ := prep1 (E := E) (d := d - 1) (by omega) S hv
  obtain ⟨f, g, e2⟩ := sp131 (E := E) (w := w1) (d := d) (by omega) S1.mr S.gw S1.ms S.sl
  exact ⟨_, _, _, p85_e_a (by omega) e1 S1.cs (sp5 (by omega) S1.gr hT S.gw S.sl), e2, Sim.out S1.f8.a17 (Nat.le_succ_of_le (Nat.le_of_eq ht))⟩
theorem op_leastBlue (hd : 40 ≤ d) (S : Sim w n N s D v) (hv : v < 2147483648) : AGQ E w v d 88 [.ref 1] 137 [.ref 27] := by
  obtain ⟨w1, e1, S1, hT, ht⟩ := prep25 (E := E) (d := d - 1) (by omega) S hv
  exact ⟨_, _, _, p88_e_a (by omega) e1 hT, sp137 (by omega) S1.mr S.gw, Sim.out S1.f8 (Nat.le_succ_of_le (Nat.le_of_eq ht))⟩
theorem op_doors (hd : 40 ≤ d) (S : Sim w n N s D v) : AGQ E w v d 74 [.ref 1] 111 [.ref 27] :=
  ⟨_, _, _, p74_e_a (by omega) (sp49 (by omega) S.gr S.gw), p111_e_a (by omega) (sp103 (by omega) S.f8.mr S.gw), Sim.out S.f8 (Nat.le_succ _)⟩
theorem op_next (hd : 40 ≤ d) (S : Sim w n N s D v) : AGW E w v d 144 [.ref 1, .int x, .ref 37] 112 [.ref 27, .int x] := by
  have h9 := sp98 (E := E) (w := sF 8 0 (sT w)) (d := d - 1) (x := x) S.mr
  have h8 := fun u => sp98 (E := E) (w := sF 8 0 (so1 u w)) (d := d - 1) (x := x) S.mr
  cases hq : isR n x with
  | false =>
    rw [hq] at h9
    exact agw_throw S (by decide) (p144_e_a (by omega) (p75_e_a (by omega) (sp90F (by omega) S.gr hq))) (p112_e_b (by omega) h9 rfl sp97)
  | true =>
    rw [hq] at h8
    obtain ⟨a, ha, rfl⟩ := isR_ex hq S.gw.n9
    have hn := S.gw.n9
    have hg := S.gr.2 a
    have hm := S.mr.2 a (by omega)
    exact ⟨_, _, _, _, p144_e_b (by omega) (p75_e_b (by omega) (sp90T (by omega) S.gr hq) rfl (by omega) hg) rfl, p112_e_a (by omega) (h8 _) (by decide) rfl (by omega) hm, rfl, fun _ => gO_so1, Sim.out S.o.f8 (Nat.le_succ _)⟩
theorem op_huntAnew (hd : 40 ≤ d) (S : Sim w n N s D v) : AGW E w v d 150 [.ref 1, .int x, .ref 37] 130 [.ref 27, .int x] := by
  by_cases t0 : x < 0
  · exact agw_throw S (by decide) (p150_e_a (by omega) (p84_e_c t0 rfl)) (p130_e_d (by omega) t0 sp97)
  · by_cases t3 : (4 : Int32) < x
    · exact agw_throw S (by decide) (p150_e_a (by omega) (p84_e_a t0 t3 rfl)) (p130_e_a (by omega) t0 t3 sp97)
    · obtain ⟨m, hm, rfl⟩ := nn_ex (k := 4) (by decide) t0 t3
      obtain ⟨f, g, e2⟩ := sp130 (E := E) (w := so1 (hma n N m s).toInt64 w) (d := d) (by omega) S.o.mr S.gw S.o.ms S.sl hm
      exact ⟨_, _, _, _, p150_e_b (by omega) (p84_e_b (by omega) t0 t3 S.cs (sp62 (by omega) S.gr S.gw S.sl hm)) rfl, e2, rfl, fun _ => gO_so1, Sim.out S.o.f8.a17 (Nat.le_succ _)⟩
theorem op_forced (hd : 40 ≤ d) (S : Sim w n N s D v) : AGW E w v d 151 [.ref 1, .int x, .ref 37] 135 [.ref 27, .int x] := by
  cases hq : isS n x with
  | false => exact agw_throw S (by decide) (p151_e_a (by omega) (p86_e_a (by omega) (sp92F (by omega) S.gr S.gw hq))) (sp135F (by omega) S.t.mr S.gw hq)
  | true =>
    obtain ⟨b, hb, rfl⟩ := isS_ex hq S.gw.n9
    exact ⟨_, _, _, _, p151_e_b (by omega) (p86_e_b (by omega) (sp92T (by omega) S.gr S.gw hq) (sp27 (by omega) S.gr S.gw hb)) rfl, sp135T (by omega) S.o.mr S.gw hb hq, rfl, fun _ => gO_so1, Sim.out S.o.f8 (Nat.le_succ _)⟩
theorem op_rounds (hd : 40 ≤ d) (S : Sim w n N s D v) : AGW E w v d 152 [.ref 1, .int x, .ref 37] 136 [.ref 27, .int x] := by
  cases hq : isS n x with
  | false => exact agw_throw S (by decide) (p152_e_a (by omega) (p87_e_a (by omega) (sp92F (by omega) S.gr S.gw hq))) (sp136F (by omega) S.t.mr S.gw hq)
  | true =>
    obtain ⟨b, hb, rfl⟩ := isS_ex hq S.gw.n9
    exact ⟨_, _, _, _, p152_e_b (by omega) (p87_e_b (by omega) (sp92T (by omega) S.gr S.gw hq) (sp28 (by omega) S.gr S.gw hb)) rfl, sp136T (by omega) S.o.mr S.gw hb hq, rfl, fun _ => gO_so1, Sim.out S.o.f8 (Nat.le_succ _)⟩
end
