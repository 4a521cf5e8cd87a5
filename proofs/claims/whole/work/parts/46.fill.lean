/-! THE CHASE, reference: worst and least. -/
section
variable {E : Nat × (Nat → Int32)} {w : Wd} {d n : Nat} {N : Nat → Nat}
/-- the arrays hold C and R -/
def AR (w : Wd) (C R : Nat → Nat) : Prop := ∀ i, i < 810 → gA w 15 i = I (C i) ∧ gA w 16 i = I (R i) ∧ C i ≤ 99 ∧ R i ≤ 99
def isWorst (n : Nat) (N : Nat → Nat) (C : Nat → Nat) (a b r v : Nat) : Prop := v ≤ 99 ∧ (∀ x, x < n → nr N r x = true → C (cl a b x) ≤ v) ∧ (v = 0 ∨ ∃ x, x < n ∧ nr N r x = true ∧ v = C (cl a b x))
theorem sp116 {a b r : Nat} {C R : Nat → Nat} (hd : 1 ≤ d) (hR : MR w n N) (G : GW n N) (hA : AR w C R) (ha : a < n) (hb : b ≤ 9) (hr : r < n) : ∃ v, Ev d 116 (ent0 116 [.ref 27, .int (I a), .int (I b), .int (I r)] (hp E w)) (.inl (some (.int (I v))), hp E w) ∧ isWorst n N C a b r v := by
  have hn := G.n9
  have key := down (n := n) (Q := fun j => ∀ m u, m ≤ 99 → (∀ x, x < j → nr N r x = true → C (cl a b x) ≤ m) → (m = 0 ∨ ∃ x, x < n ∧ nr N r x = true ∧ m = C (cl a b x)) → ∃ v, Ev d 116 (6, [.ref 27, .int (I a), .int (I b), .int (I r), .int (I m), .int (I j), u], [], hp E w) (.inl (some (.int (I v))), hp E w) ∧ isWorst n N C a b r v) (fun j hj e m u hm h1 h2 => ?_) (fun m u hm h1 h2 => ?_) 0 (Nat.zero_le _)
  · obtain ⟨v, e, hv⟩ := key 0 jk (by decide) (fun x hx => by omega) (Or.inl rfl)
    exact ⟨v, p116_e_a e, hv⟩
  · have h3 := sp114 (E := E) (d := d - 1) hR G (a := r) (b := j) (by omega) (by omega)
    have hcl := cl_lt (show a < 9 by omega) hb (show j < 9 by omega)
    obtain ⟨c1, c2, c3, c4⟩ := hA _ hcl
    cases hq : nr N r j with
    | false =>
      rw [hq] at h3
      obtain ⟨v, e', hv⟩ := e m u hm (fun x hx hnx => by
        by_cases e1 : x = j
        · subst e1; rw [hq] at hnx; cases hnx
        · exact h1 x (by omega) hnx) h2
      exact ⟨v, p116_6_c hd (lt_n hR.1 hn hj) h3 rfl (I_add j 1) e', hv⟩
    | true =>
      rw [hq] at h3
      by_cases hlt : m < C (cl a b j)
      · obtain ⟨v, e', hv⟩ := e (C (cl a b j)) (.int (I (C (cl a b j)))) c3 (fun x hx hnx => by
          by_cases e1 : x = j
          · subst e1; exact Nat.le_refl _
          · have := h1 x (by omega) hnx; omega) (Or.inr ⟨j, hj, hq, rfl⟩)
        refine ⟨v, p116_6_a hd (lt_n hR.1 hn hj) h3 (by decide) (I_cl a b j) hcl (by rw [c1]; exact (I_lt (by omega) (by omega)).mpr hlt) c1 (I_add j 1) (by rw [c1]; exact e'), hv⟩
      · obtain ⟨v, e', hv⟩ := e m (.int (I (C (cl a b j)))) hm (fun x hx hnx => by
          by_cases e1 : x = j
          · subst e1; omega
          · exact h1 x (by omega) hnx) h2
        exact ⟨v, p116_6_b hd (lt_n hR.1 hn hj) h3 (by decide) (I_cl a b j) hcl (by rw [c1, I_lt (by omega) (by omega)]; exact hlt) (I_add j 1) (by rw [c1]; exact e'), hv⟩
  · exact ⟨m, p116_6_d (nlt_n hR.1 hn (Nat.le_refl _) (by omega)), hm, h1, h2⟩
def isLeast (n : Nat) (N : Nat → Nat) (R : Nat → Nat) (a b r v : Nat) : Prop := v ≤ 99 ∧ (∀ x y, x < n → y < 10 → nr N a x = true → nr N b y = true → v ≤ R (cl x y r)) ∧ (v = 99 ∨ ∃ x y, x < n ∧ y < 10 ∧ nr N a x = true ∧ nr N b y = true ∧ v = R (cl x y r))
theorem nlt9_10 : ¬ (9 : Int32) < I 9 := by decide
theorem sp117 {a b r : Nat} {C R : Nat → Nat} (hd : 2 ≤ d) (hR : MR w n N) (G : GW n N) (hA : AR w C R) (ha : a < n) (hb : pl n b) (hr : r < n) : ∃ v, Ev d 117 (ent0 117 [.ref 27, .int (I a), .int (I b), .int (I r)] (hp E w)) (.inl (some (.int (I v))), hp E w) ∧ isLeast n N R a b r v := by
  have hn := G.n9
  have hb9 := pl9 hn hb
  have key := down (n := n) (Q := fun x0 => ∀ m u v0, m ≤ 99 → (∀ x y, x < x0 → y < 10 → nr N a x = true → nr N b y = true → m ≤ R (cl x y r)) → (m = 99 ∨ ∃ x y, x < n ∧ y < 10 ∧ nr N a x = true ∧ nr N b y = true ∧ m = R (cl x y r)) → ∃ v, Ev d 117 (7, [.ref 27, .int (I a), .int (I b), .int (I r), .int (I m), .int (I x0), u, v0], [], hp E w) (.inl (some (.int (I v))), hp E w) ∧ isLeast n N R a b r v) (fun x0 hx0 e m u v0 hm h1 h2 => ?_) (fun m u v0 hm h1 h2 => ?_) 0 (Nat.zero_le _)
  · obtain ⟨v, e, hv⟩ := key 99 jk jk (Nat.le_refl _) (fun x y hx => by omega) (Or.inl rfl)
    exact ⟨v, p117_e_a e, hv⟩
  · have q1 := sp114 (E := E) (d := d - 1) hR G (a := a) (b := x0) (by omega) (by omega)
    have in1 := down (n := 10) (Q := fun y0 => ∀ m v0, m ≤ 99 → (∀ x y, x < x0 → y < 10 → nr N a x = true → nr N b y = true → m ≤ R (cl x y r)) → (∀ y, y < y0 → nr N a x0 = true → nr N b y = true → m ≤ R (cl x0 y r)) → (m = 99 ∨ ∃ x y, x < n ∧ y < 10 ∧ nr N a x = true ∧ nr N b y = true ∧ m = R (cl x y r)) → ∃ v, Ev d 117 (19, [.ref 27, .int (I a), .int (I b), .int (I r), .int (I m), .int (I x0), .int (I y0), v0], [], hp E w) (.inl (some (.int (I v))), hp E w) ∧ isLeast n N R a b r v) (fun y0 hy0 e2 m v0 hm h1 h3 h2 => ?_) (fun m v0 hm h1 h3 h2 => ?_) 0 (by decide)
    · obtain ⟨v, e', hv⟩ := in1 m v0 hm h1 (fun y hy => by omega) h2
      exact ⟨v, p117_7_a (lt_n hR.1 hn hx0) e', hv⟩
    · have c9 : ¬ (9 : Int32) < I y0 := fun z => by have := (I_lt (a := 9) (by omega) (by omega)).mp z; omega
      have skip : (nr N a x0 = true → nr N b y0 = true → m ≤ R (cl x0 y0 r)) → ∀ v0, ∃ v, Ev d 117 (19, [.ref 27, .int (I a), .int (I b), .int (I r), .int (I m), .int (I x0), .int (I (y0 + 1)), v0], [], hp E w) (.inl (some (.int (I v))), hp E w) ∧ isLeast n N R a b r v := fun hs v0 => e2 m v0 hm h1 (fun y hy hny1 hny2 => by
        by_cases e1 : y = y0
        · subst e1; exact hs hny1 hny2
        · exact h3 y (by omega) hny1 hny2) h2
      cases n1 : nr N a x0 with
      | false =>
        rw [n1] at q1
        obtain ⟨v, e', hv⟩ := skip (fun z => by rw [n1] at z; cases z) v0
        exact ⟨v, p117_19_h (by omega) c9 q1 rfl (I_add y0 1) e', hv⟩
      | true =>
        rw [n1] at q1
        have q2 := sp115 (E := E) (d := d - 1) (by omega) hR G hb9 (show y0 ≤ 9 by omega)
        have hcl := cl_lt (show x0 < 9 by omega) (show y0 ≤ 9 by omega) (show r < 9 by omega)
        obtain ⟨c1, c2, c3, c4⟩ := hA _ hcl
        -- the cell counts
        have take : R (cl x0 y0 r) < m → nr N b y0 = true → ∃ v, Ev d 117 (19, [.ref 27, .int (I a), .int (I b), .int (I r), .int (I (R (cl x0 y0 r))), .int (I x0), .int (I (y0 + 1)), .int (I (R (cl x0 y0 r)))], [], hp E w) (.inl (some (.int (I v))), hp E w) ∧ isLeast n N R a b r v := fun hlt n2 => e2 _ _ c4 (fun x y hx hy g1 g2 => by have := h1 x y hx hy g1 g2; omega) (fun y hy g1 g2 => by
          by_cases e1 : y = y0
          · subst e1; exact Nat.le_refl _
          · have := h3 y (by omega) g1 g2; omega) (Or.inr ⟨x0, y0, hx0, hy0, n1, n2, rfl⟩)
        have cmp : gA w 16 (cl x0 y0 r) < I m ↔ R (cl x0 y0 r) < m := by rw [c2, I_lt (by omega) (by omega)]
        by_cases hyn : y0 < n
        · have d1 := lt_n hR.1 hn hyn
          cases n2 : nr N b y0 with
          | false =>
            rw [n2] at q2
            obtain ⟨v, e', hv⟩ := skip (fun _ z => by rw [n2] at z; cases z) v0
            exact ⟨v, p117_19_g (by omega) c9 q1 (by decide) d1 q2 rfl (I_add y0 1) e', hv⟩
          | true =>
            rw [n2] at q2
            by_cases hlt : R (cl x0 y0 r) < m
            · obtain ⟨v, e', hv⟩ := take hlt n2
              exact ⟨v, p117_19_e (by omega) c9 q1 (by decide) d1 q2 (by decide) (I_cl x0 y0 r) hcl (cmp.mpr hlt) c2 (I_add y0 1) (by rw [c2]; exact e'), hv⟩
            · obtain ⟨v, e', hv⟩ := skip (fun _ _ => by omega) (.int (I (R (cl x0 y0 r))))
              exact ⟨v, p117_19_f (by omega) c9 q1 (by decide) d1 q2 (by decide) (I_cl x0 y0 r) hcl (fun z => hlt (cmp.mp z)) (I_add y0 1) (by rw [c2]; exact e'), hv⟩
        · have d1 := nlt_n hR.1 hn (show n ≤ y0 by omega) (show y0 ≤ 100 by omega)
          by_cases h9 : y0 = 9
          · have d2 : I y0 = (9 : Int32) := by rw [h9]; rfl
            cases n2 : nr N b y0 with
            | false =>
              rw [n2] at q2
              obtain ⟨v, e', hv⟩ := skip (fun _ z => by rw [n2] at z; cases z) v0
              exact ⟨v, p117_19_c (by omega) c9 q1 (by decide) d1 d2 q2 rfl (I_add y0 1) e', hv⟩
            | true =>
              rw [n2] at q2
              by_cases hlt : R (cl x0 y0 r) < m
              · obtain ⟨v, e', hv⟩ := take hlt n2
                exact ⟨v, p117_19_a (by omega) c9 q1 (by decide) d1 d2 q2 (by decide) (I_cl x0 y0 r) hcl (cmp.mpr hlt) c2 (I_add y0 1) (by rw [c2]; exact e'), hv⟩
              · obtain ⟨v, e', hv⟩ := skip (fun _ _ => by omega) (.int (I (R (cl x0 y0 r))))
                exact ⟨v, p117_19_b (by omega) c9 q1 (by decide) d1 d2 q2 (by decide) (I_cl x0 y0 r) hcl (fun z => hlt (cmp.mp z)) (I_add y0 1) (by rw [c2]; exact e'), hv⟩
          · have d2 : ¬ I y0 = (9 : Int32) := fun z => h9 ((I_inj (b := 9) (by omega) (by omega)).mp z)
            obtain ⟨v, e', hv⟩ := skip (fun _ z => by
              rcases pl_near G hb z with g | g <;> omega) v0
            exact ⟨v, p117_19_d (by omega) c9 q1 (by decide) d1 d2 (I_add y0 1) e', hv⟩
    · obtain ⟨v, e', hv⟩ := e m (.int (I 10)) v0 hm (fun x y hx hy g1 g2 => by
        by_cases e1 : x = x0
        · subst e1; exact h3 y hy g1 g2
        · exact h1 x y (by omega) hy g1 g2) h2
      exact ⟨v, p117_19_i (by decide) (I_add x0 1) e', hv⟩
  · exact ⟨m, p117_7_b (nlt_n hR.1 hn (Nat.le_refl _) (by omega)), hm, h1, h2⟩
end
