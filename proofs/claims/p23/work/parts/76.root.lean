/-! THE SEARCH: from the beginnings. -/
section
def e0 (D i j : Nat) : Bool := decide (i = j) || ((decide (i = 0) && (decide (1 ≤ j) && decide (j ≤ D))) || (decide (j = 0) && (decide (1 ≤ i) && decide (i ≤ D))))
def RT (m D : Nat) (x : SS) : Prop := Cok m x.1 ∧ x.2.2.2.2 = 0 ∧ (x.2.1 < 2 ^ 81 ∧ ∀ k, k < 81 → x.2.1.testBit k = true → e0 D (k / 9) (k % 9) = true) ∧ (x.2.2.1 < 2 ^ 729 ∧ ∀ k, k < 729 → x.2.2.1.testBit k = true → k % 9 = 0 ∧ e0 D (k / 81) (k % 81 / 9) = true) ∧ (x.2.2.2.1 < 2 ^ 6561 ∧ ∀ a, a < 81 → ∀ b, b < 81 → x.2.2.2.1.testBit (81 * a + b) = true → b = 0) ∧ ∀ i, i < 9 → ∀ j, j < 9 → (i = j ∨ (i < m ∧ j < m ∧ (i = 0 → j ≤ D) ∧ (j = 0 → i ≤ D))) → x.2.2.2.1.testBit (729 * i + 81 * j) = true
theorem e0_nr {m D i j : Nat} {N : Nat → Nat} (G : GW m N) (hD : D < m) (hN : ∀ j, 1 ≤ j → j < m → ((N 0).testBit j = true ↔ j ≤ D)) (h : e0 D i j = true) : nr N i j = true := by
  simp only [e0, Bool.or_eq_true, Bool.and_eq_true, decide_eq_true_eq] at h
  have key : ∀ j, 1 ≤ j → j ≤ D → nr N 0 j = true := fun j h1 h2 => by
    unfold nr
    rw [(hN j h1 (by omega)).mpr h2, Bool.or_true]
  rcases h with h | ⟨h1, h2, h3⟩ | ⟨h1, h2, h3⟩
  · rw [h]; exact nr_self N j
  · rw [h1]; exact key j h2 h3
  · rw [h1, nr_symm G]; exact key i h2 h3
theorem root_win {m D : Nat} {x : SS} (hP : Pst m D x) (hR : RT m D x) (hD : D < m) {N : Nat → Nat} (G : GW m N) (hd : ∀ i, i < m → pc (N i) ≤ D) (hc : Cnn m N) (hN : ∀ j, 1 ≤ j → j < m → ((N 0).testBit j = true ↔ j ≤ D)) : Win m N := by
  obtain ⟨r1, r2, ⟨r3, r4⟩, ⟨r5, r6⟩, ⟨r7, r8⟩, r9⟩ := hR
  refine hP N G hd hc ⟨fun k hk => ?_, fun k hk => ?_, fun k hk => ?_, fun i j hi hj h => ?_⟩ ?_
  · exact e0_nr G hD hN (r4 k (lt_of_tb r3 hk) hk)
  · have := r6 k (lt_of_tb r5 hk) hk
    exact ⟨this.1, e0_nr G hD hN this.2⟩
  · have hlt := lt_of_tb r7 hk
    exact r8 (k / 81) (by omega) (k % 81) (by omega) (by rw [show 81 * (k / 81) + k % 81 = k by omega]; exact hk)
  · refine r9 i hi j hj ?_
    by_cases e : i = j
    · exact Or.inl e
    · have hij : (N i).testBit j = true := by
        unfold nr at h
        rw [decide_eq_false e, Bool.false_or] at h
        exact h
      obtain ⟨a1, a2⟩ := G.tb hij
      refine Or.inr ⟨a1, a2, fun z => ?_, fun z => ?_⟩
      · rw [z] at hij
        exact (hN j (by omega) a2).mp hij
      · rw [G.2.2.2.2.1, z] at hij
        exact (hN i (by omega) a1).mp hij
  · rw [r2]
    intro k hk hr hW
    obtain ⟨a1, a2, a3⟩ := r1 k hk hW
    exact ⟨a1, a2, ct_iff.mpr a3⟩
theorem rt_1_0 : RT 1 0 st_1_0_0 := ⟨by unfold Cok; decide +kernel, by decide +kernel, ⟨by decide +kernel, by decide +kernel⟩, ⟨by decide +kernel, by decide +kernel⟩, ⟨by decide +kernel, by decide +kernel⟩, by decide +kernel⟩
theorem rt_2_1 : RT 2 1 st_2_1_0 := ⟨by unfold Cok; decide +kernel, by decide +kernel, ⟨by decide +kernel, by decide +kernel⟩, ⟨by decide +kernel, by decide +kernel⟩, ⟨by decide +kernel, by decide +kernel⟩, by decide +kernel⟩
theorem rt_3_1 : RT 3 1 st_3_1_0 := ⟨by unfold Cok; decide +kernel, by decide +kernel, ⟨by decide +kernel, by decide +kernel⟩, ⟨by decide +kernel, by decide +kernel⟩, ⟨by decide +kernel, by decide +kernel⟩, by decide +kernel⟩
theorem rt_3_2 : RT 3 2 st_3_2_0 := ⟨by unfold Cok; decide +kernel, by decide +kernel, ⟨by decide +kernel, by decide +kernel⟩, ⟨by decide +kernel, by decide +kernel⟩, ⟨by decide +kernel, by decide +kernel⟩, by decide +kernel⟩
theorem rt_4_1 : RT 4 1 st_4_1_0 := ⟨by unfold Cok; decide +kernel, by decide +kernel, ⟨by decide +kernel, by decide +kernel⟩, ⟨by decide +kernel, by decide +kernel⟩, ⟨by decide +kernel, by decide +kernel⟩, by decide +kernel⟩
theorem rt_4_2 : RT 4 2 st_4_2_0 := ⟨by unfold Cok; decide +kernel, by decide +kernel, ⟨by decide +kernel, by decide +kernel⟩, ⟨by decide +kernel, by decide +kernel⟩, ⟨by decide +kernel, by decide +kernel⟩, by decide +kernel⟩
theorem rt_4_3 : RT 4 3 st_4_3_0 := ⟨by unfold Cok; decide +kernel, by decide +kernel, ⟨by decide +kernel, by decide +kernel⟩, ⟨by decide +kernel, by decide +kernel⟩, ⟨by decide +kernel, by decide +kernel⟩, by decide +kernel⟩
theorem rt_5_1 : RT 5 1 st_5_1_0 := ⟨by unfold Cok; decide +kernel, by decide +kernel, ⟨by decide +kernel, by decide +kernel⟩, ⟨by decide +kernel, by decide +kernel⟩, ⟨by decide +kernel, by decide +kernel⟩, by decide +kernel⟩
theorem rt_5_2 : RT 5 2 st_5_2_0 := ⟨by unfold Cok; decide +kernel, by decide +kernel, ⟨by decide +kernel, by decide +kernel⟩, ⟨by decide +kernel, by decide +kernel⟩, ⟨by decide +kernel, by decide +kernel⟩, by decide +kernel⟩
theorem rt_5_3 : RT 5 3 st_5_3_0 := ⟨by unfold Cok; decide +kernel, by decide +kernel, ⟨by decide +kernel, by decide +kernel⟩, ⟨by decide +kernel, by decide +kernel⟩, ⟨by decide +kernel, by decide +kernel⟩, by decide +kernel⟩
theorem rt_5_4 : RT 5 4 st_5_4_0 := ⟨by unfold Cok; decide +kernel, by decide +kernel, ⟨by decide +kernel, by decide +kernel⟩, ⟨by decide +kernel, by decide +kernel⟩, ⟨by decide +kernel, by decide +kernel⟩, by decide +kernel⟩
theorem rt_6_1 : RT 6 1 st_6_1_0 := ⟨by unfold Cok; decide +kernel, by decide +kernel, ⟨by decide +kernel, by decide +kernel⟩, ⟨by decide +kernel, by decide +kernel⟩, ⟨by decide +kernel, by decide +kernel⟩, by decide +kernel⟩
theorem rt_6_2 : RT 6 2 st_6_2_0 := ⟨by unfold Cok; decide +kernel, by decide +kernel, ⟨by decide +kernel, by decide +kernel⟩, ⟨by decide +kernel, by decide +kernel⟩, ⟨by decide +kernel, by decide +kernel⟩, by decide +kernel⟩
theorem rt_6_3 : RT 6 3 st_6_3_0 := ⟨by unfold Cok; decide +kernel, by decide +kernel, ⟨by decide +kernel, by decide +kernel⟩, ⟨by decide +kernel, by decide +kernel⟩, ⟨by decide +kernel, by decide +kernel⟩, by decide +kernel⟩
theorem rt_6_4 : RT 6 4 st_6_4_0 := ⟨by unfold Cok; decide +kernel, by decide +kernel, ⟨by decide +kernel, by decide +kernel⟩, ⟨by decide +kernel, by decide +kernel⟩, ⟨by decide +kernel, by decide +kernel⟩, by decide +kernel⟩
theorem rt_6_5 : RT 6 5 st_6_5_0 := ⟨by unfold Cok; decide +kernel, by decide +kernel, ⟨by decide +kernel, by decide +kernel⟩, ⟨by decide +kernel, by decide +kernel⟩, ⟨by decide +kernel, by decide +kernel⟩, by decide +kernel⟩
theorem rt_7_1 : RT 7 1 st_7_1_0 := ⟨by unfold Cok; decide +kernel, by decide +kernel, ⟨by decide +kernel, by decide +kernel⟩, ⟨by decide +kernel, by decide +kernel⟩, ⟨by decide +kernel, by decide +kernel⟩, by decide +kernel⟩
theorem rt_7_2 : RT 7 2 st_7_2_0 := ⟨by unfold Cok; decide +kernel, by decide +kernel, ⟨by decide +kernel, by decide +kernel⟩, ⟨by decide +kernel, by decide +kernel⟩, ⟨by decide +kernel, by decide +kernel⟩, by decide +kernel⟩
theorem rt_7_3 : RT 7 3 st_7_3_0 := ⟨by unfold Cok; decide +kernel, by decide +kernel, ⟨by decide +kernel, by decide +kernel⟩, ⟨by decide +kernel, by decide +kernel⟩, ⟨by decide +kernel, by decide +kernel⟩, by decide +kernel⟩
theorem rt_7_4 : RT 7 4 st_7_4_0 := ⟨by unfold Cok; decide +kernel, by decide +kernel, ⟨by decide +kernel, by decide +kernel⟩, ⟨by decide +kernel, by decide +kernel⟩, ⟨by decide +kernel, by decide +kernel⟩, by decide +kernel⟩
theorem rt_7_5 : RT 7 5 st_7_5_0 := ⟨by unfold Cok; decide +kernel, by decide +kernel, ⟨by decide +kernel, by decide +kernel⟩, ⟨by decide +kernel, by decide +kernel⟩, ⟨by decide +kernel, by decide +kernel⟩, by decide +kernel⟩
theorem rt_7_6 : RT 7 6 st_7_6_0 := ⟨by unfold Cok; decide +kernel, by decide +kernel, ⟨by decide +kernel, by decide +kernel⟩, ⟨by decide +kernel, by decide +kernel⟩, ⟨by decide +kernel, by decide +kernel⟩, by decide +kernel⟩
theorem rt_8_1 : RT 8 1 st_8_1_0 := ⟨by unfold Cok; decide +kernel, by decide +kernel, ⟨by decide +kernel, by decide +kernel⟩, ⟨by decide +kernel, by decide +kernel⟩, ⟨by decide +kernel, by decide +kernel⟩, by decide +kernel⟩
theorem rt_8_2 : RT 8 2 st_8_2_5 := ⟨by unfold Cok; decide +kernel, by decide +kernel, ⟨by decide +kernel, by decide +kernel⟩, ⟨by decide +kernel, by decide +kernel⟩, ⟨by decide +kernel, by decide +kernel⟩, by decide +kernel⟩
theorem rt_8_3 : RT 8 3 st_8_3_9 := ⟨by unfold Cok; decide +kernel, by decide +kernel, ⟨by decide +kernel, by decide +kernel⟩, ⟨by decide +kernel, by decide +kernel⟩, ⟨by decide +kernel, by decide +kernel⟩, by decide +kernel⟩
theorem rt_8_4 : RT 8 4 st_8_4_1 := ⟨by unfold Cok; decide +kernel, by decide +kernel, ⟨by decide +kernel, by decide +kernel⟩, ⟨by decide +kernel, by decide +kernel⟩, ⟨by decide +kernel, by decide +kernel⟩, by decide +kernel⟩
theorem rt_8_5 : RT 8 5 st_8_5_0 := ⟨by unfold Cok; decide +kernel, by decide +kernel, ⟨by decide +kernel, by decide +kernel⟩, ⟨by decide +kernel, by decide +kernel⟩, ⟨by decide +kernel, by decide +kernel⟩, by decide +kernel⟩
theorem rt_8_6 : RT 8 6 st_8_6_0 := ⟨by unfold Cok; decide +kernel, by decide +kernel, ⟨by decide +kernel, by decide +kernel⟩, ⟨by decide +kernel, by decide +kernel⟩, ⟨by decide +kernel, by decide +kernel⟩, by decide +kernel⟩
theorem rt_8_7 : RT 8 7 st_8_7_0 := ⟨by unfold Cok; decide +kernel, by decide +kernel, ⟨by decide +kernel, by decide +kernel⟩, ⟨by decide +kernel, by decide +kernel⟩, ⟨by decide +kernel, by decide +kernel⟩, by decide +kernel⟩
theorem rt_9_1 : RT 9 1 st_9_1_0 := ⟨by unfold Cok; decide +kernel, by decide +kernel, ⟨by decide +kernel, by decide +kernel⟩, ⟨by decide +kernel, by decide +kernel⟩, ⟨by decide +kernel, by decide +kernel⟩, by decide +kernel⟩
theorem rt_9_2 : RT 9 2 st_9_2_40 := ⟨by unfold Cok; decide +kernel, by decide +kernel, ⟨by decide +kernel, by decide +kernel⟩, ⟨by decide +kernel, by decide +kernel⟩, ⟨by decide +kernel, by decide +kernel⟩, by decide +kernel⟩
theorem rt_9_3 : RT 9 3 st_9_3_155 := ⟨by unfold Cok; decide +kernel, by decide +kernel, ⟨by decide +kernel, by decide +kernel⟩, ⟨by decide +kernel, by decide +kernel⟩, ⟨by decide +kernel, by decide +kernel⟩, by decide +kernel⟩
theorem rt_9_4 : RT 9 4 st_9_4_23 := ⟨by unfold Cok; decide +kernel, by decide +kernel, ⟨by decide +kernel, by decide +kernel⟩, ⟨by decide +kernel, by decide +kernel⟩, ⟨by decide +kernel, by decide +kernel⟩, by decide +kernel⟩
theorem rt_9_5 : RT 9 5 st_9_5_1 := ⟨by unfold Cok; decide +kernel, by decide +kernel, ⟨by decide +kernel, by decide +kernel⟩, ⟨by decide +kernel, by decide +kernel⟩, ⟨by decide +kernel, by decide +kernel⟩, by decide +kernel⟩
theorem rt_9_6 : RT 9 6 st_9_6_0 := ⟨by unfold Cok; decide +kernel, by decide +kernel, ⟨by decide +kernel, by decide +kernel⟩, ⟨by decide +kernel, by decide +kernel⟩, ⟨by decide +kernel, by decide +kernel⟩, by decide +kernel⟩
theorem rt_9_7 : RT 9 7 st_9_7_0 := ⟨by unfold Cok; decide +kernel, by decide +kernel, ⟨by decide +kernel, by decide +kernel⟩, ⟨by decide +kernel, by decide +kernel⟩, ⟨by decide +kernel, by decide +kernel⟩, by decide +kernel⟩
theorem rt_9_8 : RT 9 8 st_9_8_0 := ⟨by unfold Cok; decide +kernel, by decide +kernel, ⟨by decide +kernel, by decide +kernel⟩, ⟨by decide +kernel, by decide +kernel⟩, ⟨by decide +kernel, by decide +kernel⟩, by decide +kernel⟩
theorem win_all {m D : Nat} {N : Nat → Nat} (G : GW m N) (hD : D < m) (hD0 : m = 1 ∨ 1 ≤ D) (hd : ∀ i, i < m → pc (N i) ≤ D) (hc : Cnn m N) (hN : ∀ j, 1 ≤ j → j < m → ((N 0).testBit j = true ↔ j ≤ D)) : Win m N := by
  have hm : m = 1 ∨ m = 2 ∨ m = 3 ∨ m = 4 ∨ m = 5 ∨ m = 6 ∨ m = 7 ∨ m = 8 ∨ m = 9 := by
    have := G.n9
    have := G.n1
    omega
  have hDD : D = 0 ∨ D = 1 ∨ D = 2 ∨ D = 3 ∨ D = 4 ∨ D = 5 ∨ D = 6 ∨ D = 7 ∨ D = 8 := by have := G.n9; omega
  rcases hm with rfl | rfl | rfl | rfl | rfl | rfl | rfl | rfl | rfl <;> rcases hDD with rfl | rfl | rfl | rfl | rfl | rfl | rfl | rfl | rfl
  · exact root_win q_1_0_0 rt_1_0 hD G hd hc hN
  · omega
  · omega
  · omega
  · omega
  · omega
  · omega
  · omega
  · omega
  · omega
  · exact root_win q_2_1_0 rt_2_1 hD G hd hc hN
  · omega
  · omega
  · omega
  · omega
  · omega
  · omega
  · omega
  · omega
  · exact root_win q_3_1_0 rt_3_1 hD G hd hc hN
  · exact root_win q_3_2_0 rt_3_2 hD G hd hc hN
  · omega
  · omega
  · omega
  · omega
  · omega
  · omega
  · omega
  · exact root_win q_4_1_0 rt_4_1 hD G hd hc hN
  · exact root_win q_4_2_0 rt_4_2 hD G hd hc hN
  · exact root_win q_4_3_0 rt_4_3 hD G hd hc hN
  · omega
  · omega
  · omega
  · omega
  · omega
  · omega
  · exact root_win q_5_1_0 rt_5_1 hD G hd hc hN
  · exact root_win q_5_2_0 rt_5_2 hD G hd hc hN
  · exact root_win q_5_3_0 rt_5_3 hD G hd hc hN
  · exact root_win q_5_4_0 rt_5_4 hD G hd hc hN
  · omega
  · omega
  · omega
  · omega
  · omega
  · exact root_win q_6_1_0 rt_6_1 hD G hd hc hN
  · exact root_win q_6_2_0 rt_6_2 hD G hd hc hN
  · exact root_win q_6_3_0 rt_6_3 hD G hd hc hN
  · exact root_win q_6_4_0 rt_6_4 hD G hd hc hN
  · exact root_win q_6_5_0 rt_6_5 hD G hd hc hN
  · omega
  · omega
  · omega
  · omega
  · exact root_win q_7_1_0 rt_7_1 hD G hd hc hN
  · exact root_win q_7_2_0 rt_7_2 hD G hd hc hN
  · exact root_win q_7_3_0 rt_7_3 hD G hd hc hN
  · exact root_win q_7_4_0 rt_7_4 hD G hd hc hN
  · exact root_win q_7_5_0 rt_7_5 hD G hd hc hN
  · exact root_win q_7_6_0 rt_7_6 hD G hd hc hN
  · omega
  · omega
  · omega
  · exact root_win q_8_1_0 rt_8_1 hD G hd hc hN
  · exact root_win q_8_2_5 rt_8_2 hD G hd hc hN
  · exact root_win q_8_3_9 rt_8_3 hD G hd hc hN
  · exact root_win q_8_4_1 rt_8_4 hD G hd hc hN
  · exact root_win q_8_5_0 rt_8_5 hD G hd hc hN
  · exact root_win q_8_6_0 rt_8_6 hD G hd hc hN
  · exact root_win q_8_7_0 rt_8_7 hD G hd hc hN
  · omega
  · omega
  · exact root_win q_9_1_0 rt_9_1 hD G hd hc hN
  · exact root_win q_9_2_40 rt_9_2 hD G hd hc hN
  · exact root_win q_9_3_155 rt_9_3 hD G hd hc hN
  · exact root_win q_9_4_23 rt_9_4 hD G hd hc hN
  · exact root_win q_9_5_1 rt_9_5 hD G hd hc hN
  · exact root_win q_9_6_0 rt_9_6 hD G hd hc hN
  · exact root_win q_9_7_0 rt_9_7 hD G hd hc hN
  · exact root_win q_9_8_0 rt_9_8 hD G hd hc hN
end
