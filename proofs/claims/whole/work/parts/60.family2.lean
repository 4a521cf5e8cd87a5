/-! THE OPERATION family: reference, and both. -/
section
variable {E : Nat × (Nat → Int32)} {w : Wd} {d n s v x : Nat} {N M : Nat → Nat} {D : DL}
theorem fam_79 {lo hi : Nat} {u5 : Value} {o : Ou} (h : gF w 9 = I n) (h1 : 1 ≤ n) (hn : n ≤ 9) (hx : x ≤ 3) (hl : lo < n) (hh : hi < n) (e : Ev d 105 (133, [.ref 27, .int (I x), .int (I lo), .int (I hi), .int (bI (decide (hi = lo + 1))), .int (bI (fdB x n lo hi))], [], hp E w) o) : Ev d 105 (79, [.ref 27, .int (I x), .int (I lo), .int (I hi), .int (bI (decide (hi = lo + 1))), u5], [], hp E w) o := by
  have e2 : I lo = (0 : Int32) ↔ lo = 0 := I_inj (b := 0) (by omega) (by omega)
  have e3 : I hi = gF w 9 - (1 : Int32) ↔ hi = n - 1 := by rw [h, show I n - (1 : Int32) = I (n - 1) from I_sub h1, I_inj (by omega) (by omega)]
  have hx' : x = 0 ∨ x = 1 ∨ x = 2 ∨ x = 3 := by omega
  unfold fdB at e
  rcases hx' with rfl | rfl | rfl | rfl
  · rw [if_pos rfl] at e
    by_cases c : hi = lo + 1
    · rw [decide_eq_true c] at e ⊢; exact p105_79_r (by decide) (by decide) rfl (by decide) e
    · rw [decide_eq_false c] at e ⊢; exact p105_79_q (by decide) (by decide) rfl rfl (by decide) e
  · rw [if_neg (by decide), if_pos rfl] at e
    by_cases c : hi = lo + 1
    · rw [decide_eq_true c, Bool.true_or] at e
      rw [decide_eq_true c]
      exact p105_79_v (by decide) (by decide) (by decide) rfl (by decide) e
    · rw [decide_eq_false c, Bool.false_or] at e
      rw [decide_eq_false c]
      by_cases c2 : lo = 0
      · rw [decide_eq_true c2, Bool.true_and] at e
        by_cases c3 : hi = n - 1
        · rw [decide_eq_true c3] at e; exact p105_79_s (by decide) (by decide) (by decide) rfl rfl (e2.mpr c2) (e3.mpr c3) e
        · rw [decide_eq_false c3] at e; exact p105_79_t (by decide) (by decide) (by decide) rfl rfl (e2.mpr c2) (fun z => c3 (e3.mp z)) e
      · rw [decide_eq_false c2, Bool.false_and] at e; exact p105_79_u (by decide) (by decide) (by decide) rfl rfl (fun z => c2 (e2.mp z)) e
  · rw [if_neg (by decide), if_neg (by decide), if_pos rfl] at e
    by_cases c2 : lo = 0
    · rw [decide_eq_true c2] at e; exact p105_79_l (by decide) rfl (e2.mpr c2) e
    · rw [decide_eq_false c2] at e; exact p105_79_k (by decide) rfl (fun z => c2 (e2.mp z)) (by decide) (by decide) e
  · rw [if_neg (by decide), if_neg (by decide), if_neg (by decide)] at e
    exact p105_79_x rfl e
theorem fam_45 {f : Nat → Int32} (hd : 2 ≤ d) (h : gF w 9 = I n) (h1 : 1 ≤ n) (hn : n ≤ 9) (hx : x ≤ 3) (hM : MR (sA 10 f w) n (fmN x n 0)) : ∃ f', Ev d 105 (45, [.ref 27, .int (I x), .int (I 0), jk, jk, jk], [], hp E (sA 10 f w)) (.inl (some (.int (I (dc2 n (fmN x n n) / 2)))), hp E (sA 10 f' w)) ∧ MR (sA 10 f' w) n (fmN x n n) := by
  refine down (n := n) (Q := fun lo => ∀ f u3 u4 u5, MR (sA 10 f w) n (fmN x n lo) → ∃ f', Ev d 105 (45, [.ref 27, .int (I x), .int (I lo), u3, u4, u5], [], hp E (sA 10 f w)) (.inl (some (.int (I (dc2 n (fmN x n n) / 2)))), hp E (sA 10 f' w)) ∧ MR (sA 10 f' w) n (fmN x n n)) (fun lo hlo e f u3 u4 u5 hG => ?_) (fun f u3 u4 u5 hG => ?_) 0 (Nat.zero_le _) f jk jk jk hM
  · have k2 := down (n := n) (Q := fun hi => lo < hi → ∀ f u4 u5, MR (sA 10 f w) n (rwN x n lo hi (fmN x n lo)) → ∃ f', Ev d 105 (57, [.ref 27, .int (I x), .int (I lo), .int (I hi), u4, u5], [], hp E (sA 10 f w)) (.inl (some (.int (I (dc2 n (fmN x n n) / 2)))), hp E (sA 10 f' w)) ∧ MR (sA 10 f' w) n (fmN x n n)) (fun hi hhi e2 hlt f u4 u5 hG => ?_) (fun hlt f u4 u5 hG => ?_) (lo + 1) (by omega) (Nat.lt_succ_self _) f u4 u5 (by rw [rwN_low lo _ _ (Nat.le_refl _)]; exact hG)
    · obtain ⟨f', e', h'⟩ := k2
      exact ⟨f', p105_45_a (lt_n (x := gF (sA 10 f w) 9) h hn hlo) (I_add lo 1) e', h'⟩
    · rw [rwN_succ, decide_eq_true hlt, Bool.true_and] at e2
      have hl := lt_n (x := gF (sA 10 f w) 9) h hn hhi
      have c1 : I hi = I lo + (1 : Int32) ↔ hi = lo + 1 := by rw [show I lo + (1 : Int32) = I (lo + 1) from I_add lo 1, I_inj (by omega) (by omega)]
      -- to pc 133
      have to133 : ∀ (o : Ou), Ev d 105 (133, [.ref 27, .int (I x), .int (I lo), .int (I hi), .int (bI (decide (hi = lo + 1))), .int (bI (fdB x n lo hi))], [], hp E (sA 10 f w)) o → Ev d 105 (57, [.ref 27, .int (I x), .int (I lo), .int (I hi), u4, u5], [], hp E (sA 10 f w)) o := fun o e0 => by
        have e1 := fam_79 (u5 := u5) (w := sA 10 f w) h h1 hn hx hlo hhi e0
        by_cases c : hi = lo + 1
        · rw [decide_eq_true c] at e1; exact p105_57_a hl (c1.mpr c) e1
        · rw [decide_eq_false c] at e1; exact p105_57_b hl (fun z => c (c1.mp z)) e1
      cases hf : fdB x n lo hi with
      | true =>
        rw [hf, if_pos rfl] at e2
        have hG0 := GW_rw (x := x) (lo := lo) (GW_fm (x := x) h1 hn lo (by omega)) hlo hi (by omega)
        have ha := abs_rw (x := x) (n := n) (abs_fm (x := x) (n := n) lo) hi lo hi hlt (Or.inr ⟨rfl, Nat.le_refl _⟩)
        have hG' := MR_put (is := true) hG hG0 (show lo ≠ hi by omega) (show lo < 9 by omega) (show hi < 9 by omega) ha
        have hs := sp104 (E := E) (w := sA 10 f w) (d := d - 1) (is := true) (show lo < 9 by omega) (show hi < 9 by omega)
        rw [sA_sA] at hG' hs
        obtain ⟨f', e', h'⟩ := e2 (by omega) _ (.int (bI (decide (hi = lo + 1)))) (.int (bI true)) hG'
        rw [hf] at to133
        exact ⟨f', to133 _ (p105_133_a (by omega) (by decide) hs (I_add hi 1) e'), h'⟩
      | false =>
        rw [hf, if_neg (by decide)] at e2
        obtain ⟨f', e', h'⟩ := e2 (by omega) f (.int (bI (decide (hi = lo + 1)))) (.int (bI false)) hG
        rw [hf] at to133
        exact ⟨f', to133 _ (p105_133_b rfl (I_add hi 1) e'), h'⟩
    · obtain ⟨f', e', h'⟩ := e f (.int (I n)) u4 u5 hG
      exact ⟨f', p105_57_c (nlt_n (x := gF (sA 10 f w) 9) h hn (Nat.le_refl _) (by omega)) (I_add lo 1) e', h'⟩
  · exact ⟨f, p105_45_b (by omega) (nlt_n (x := gF (sA 10 f w) 9) h hn (Nat.le_refl _) (by omega)) (sp103 (by omega) hG (GW_fm h1 hn n (Nat.le_refl _))), hG⟩
theorem op_family {x : Int32} (hd : 40 ≤ d) (S : Sim w n N s D v) : AGW E w v d 140 [.ref 1, .int x, .ref 37] 105 [.ref 27, .int x] := by
  have hn := S.gw.n9
  have hn1 := S.gw.n1
  by_cases x0 : x < 0
  · exact agw_throw S (by decide) (p140_e_b (by omega) (p70_e_e x0 rfl)) (p105_e_e (by omega) x0 sp97)
  · by_cases x3 : (3 : Int32) < x
    · exact agw_throw S (by decide) (p140_e_b (by omega) (p70_e_a x0 x3 rfl)) (p105_e_a (by omega) x0 x3 sp97)
    · have c3 : gF w 1 < (3 : Int32) ↔ n < 3 := by rw [S.gr.1]; exact I_lt (b := 3) (by omega) (by omega)
      have m3 : gF w 9 < (3 : Int32) ↔ n < 3 := by rw [S.mr.1]; exact I_lt (b := 3) (by omega) (by omega)
      by_cases hr : x = 1 ∧ n < 3
      · exact agw_throw S (by decide) (p140_e_a (by omega) (p70_e_b (by omega) x0 x3 hr.1 (c3.mpr hr.2) rfl)) (p105_e_b (by omega) x0 x3 hr.1 (m3.mpr hr.2) sp97)
      · obtain ⟨m, hm, rfl⟩ := nn_ex (k := 3) (by decide) x0 x3
        obtain ⟨G, hs, hl2, hD, ⟨k1, k2, k3, k4, k5, k6, k7, k8⟩, ⟨m1, m2, m3', m4⟩⟩ := S
        obtain ⟨f, c, e40, hc, hG⟩ := sp40 (E := E) (w := w) (d := d - 1 - 1) (x := m) (by omega) k1.1 k3 hn1 hn hm
        have GF := GW_fm (x := m) hn1 hn n (Nat.le_refl _)
        have e89 := sp89 (E := E) (d := d - 1 - 1) (by omega) hG GF
        have e49 := sp49 (E := E) (w := sF 0 (I (2 ^ n - 1)) (sF 3 0 (fw f (I (v + 1 + c)) (sF 1 (I n) w)))) (d := d - 1 - 1) (by omega) (by exact hG) GF
        have e1 : Ev (d - 1) 70 (ent0 70 [.ref 1, .int (I m)] (hp E w)) (.inl (some (.int (I (dc2 n (fmN m n n) / 2)))), hp E (sF 0 (I (2 ^ n - 1)) (sF 3 0 (fw f (I (v + 1 + c)) (sF 1 (I n) w))))) := by
          by_cases h1 : I m = (1 : Int32)
          · exact p70_e_c (by omega) x0 x3 h1 (fun z => hr ⟨h1, c3.mp z⟩) e40 e89 e49
          · exact p70_e_d (by omega) x0 x3 h1 e40 e89 e49
        have e2 := p140_e_c (E := E) (d := d) (by omega) e1 rfl
        generalize hW : so1 (I (dc2 n (fmN m n n) / 2)).toInt64 (sF 0 (I (2 ^ n - 1)) (sF 3 0 (fw f (I (v + 1 + c)) (sF 1 (I n) w)))) = W at e2
        have W1 : gF W 9 = I n := by rw [← hW]; exact m1.1
        have WO : gO W = (I (dc2 n (fmN m n n) / 2)).toInt64 := by rw [← hW]; exact gO_so1
        have e101 := sp101 (E := E) (w := sF 8 0 W) (d := d - 1) W1 hn (by omega)
        obtain ⟨f', e45, hM⟩ := fam_45 (E := E) (w := sF 10 (I (2 ^ n - 1)) (sF 11 0 (sF 8 0 W))) (f := ra 9 (gA W 10) 0) (d := d) (x := m) (by omega) W1 hn1 hn hm (MR_bg (w := sF 10 (I (2 ^ n - 1)) (sF 11 0 (sF 8 0 W))) W1)
        have e3 : Ev d 105 (ent0 105 [.ref 27, .int (I m)] (hp E W)) (.inl (some (.int (I (dc2 n (fmN m n n) / 2)))), hp E (sA 10 f' (sF 10 (I (2 ^ n - 1)) (sF 11 0 (sF 8 0 W))))) := by
          by_cases h1 : I m = (1 : Int32)
          · exact p105_e_c (by omega) x0 x3 h1 (by show ¬ gF W 9 < 3; rw [W1]; exact fun z => hr ⟨h1, (I_lt (b := 3) (by omega) (by omega)).mp z⟩) e101 e45
          · exact p105_e_d (by omega) x0 x3 h1 e101 e45
        have hp := Nat.two_pow_pos n
        refine ⟨_, _, _, _, e2, e3, rfl, fun _ => WO, n, fmN m n n, 2 ^ n - 1, [], v + 1 + c, ⟨GF, by omega, Nat.zero_le _, trivial, ⟨?_, ?_, ?_, ?_, trivial, ?_, ?_, ?_⟩, ⟨hM, rfl, rfl, trivial⟩⟩, by omega, ?_⟩
        · rw [← hW]; exact hG
        · rw [← hW]; rfl
        · rw [← hW]; rfl
        · rw [← hW]; rfl
        · rw [← hW]; exact cach_new k6 (by omega)
        · rw [← hW]; exact cach_new k7 (by omega)
        · rw [← hW]; exact cach_new k8 (by omega)
        · rw [← hW]; exact Nat.le_succ _
end
