/-! THE HUNT: if there is one, of up to 8 rooms, it wants few shots. -/
section
variable {n : Nat} {N : Nat → Nat}
theorem bh_tb (G : GW n N) {s r j : Nat} (hs : s < 512) : (bh n N s r).testBit j = true ↔ ∃ k, s.testBit k = true ∧ k ≠ r ∧ (N k).testBit j = true := by
  unfold bh
  rw [tb_nts, anyB_iff]
  constructor
  · rintro ⟨k, hk, h⟩
    rw [Bool.and_eq_true, tb_nd hs, Bool.and_eq_true, Nat.testBit_two_pow, Bool.not_eq_true', decide_eq_false_iff_not] at h
    exact ⟨k, h.1.1, fun e => h.1.2 e.symm, h.2⟩
  · rintro ⟨k, h1, h2, h3⟩
    refine ⟨k, (G.tb h3).1, ?_⟩
    rw [Bool.and_eq_true, tb_nd hs, Bool.and_eq_true, Nat.testBit_two_pow, Bool.not_eq_true', decide_eq_false_iff_not]
    exact ⟨⟨h1, fun e => h2 e.symm⟩, h3⟩
theorem nts_tb (G : GW n N) {s j : Nat} : (nts n N s).testBit j = true ↔ ∃ k, s.testBit k = true ∧ (N k).testBit j = true := by
  rw [tb_nts, anyB_iff]
  constructor
  · rintro ⟨k, hk, h⟩
    rw [Bool.and_eq_true] at h
    exact ⟨k, h⟩
  · rintro ⟨k, h1, h3⟩
    exact ⟨k, (G.tb h3).1, by rw [Bool.and_eq_true]; exact ⟨h1, h3⟩⟩
/-- rooms each of which has two doors to others of them: the rabbit is safe there -/
def Cor (N : Nat → Nat) (L : Nat) : Prop := ∀ v, L.testBit v = true → ∃ p q, p ≠ q ∧ L.testBit p = true ∧ L.testBit q = true ∧ (N v).testBit p = true ∧ (N v).testBit q = true
theorem cor_safe (G : GW n N) {L : Nat} (h0 : L ≠ 0) (hC : Cor N L) : ∀ k s, s < 512 → Sb L s → hq n N k s = false
  | 0, s, hs, h => by
    refine decide_eq_false fun e => ?_
    subst e
    exact h0 (Sb_zero h)
  | k + 1, s, hs, h => by
    cases hq1 : hq n N (k + 1) s with
    | false => rfl
    | true =>
      rcases hq_succ_iff.mp hq1 with e | ⟨r, hr, h1⟩
      · subst e
        exact absurd (Sb_zero h) h0
      · rw [cor_safe G h0 hC k (bh n N s r) (nts_lt9 G _) (fun v hv => ?_)] at h1
        · cases h1
        · obtain ⟨p, q, hpq, hp, hq, e1, e2⟩ := hC v hv
          by_cases e : p = r
          · exact (bh_tb G hs).mpr ⟨q, h q hq, fun z => hpq (e.trans z.symm), by rw [G.2.2.2.2.1]; exact e2⟩
          · exact (bh_tb G hs).mpr ⟨p, h p hp, e, by rw [G.2.2.2.2.1]; exact e1⟩
/-- two colours, so that no door is between alike ones -/
theorem colour (G : GW n N) (hno : ∀ L, L < 2 ^ n → L ≠ 0 → ¬ Cor N L) : ∀ m L, L < 2 ^ n → pc L ≤ m → ∃ c : Nat → Bool, ∀ i j, L.testBit i = true → L.testBit j = true → (N i).testBit j = true → c i ≠ c j
  | m, L, hL, hp => by
    have h512 := Nat.lt_of_lt_of_le hL (two_pow_le G.n9)
    by_cases h0 : L = 0
    · subst h0
      exact ⟨fun _ => true, fun i j hi => by rw [Nat.zero_testBit] at hi; cases hi⟩
    · obtain ⟨v, hv⟩ := Classical.not_forall.mp (hno L hL h0)
      obtain ⟨hv, hv2⟩ := Classical.not_imp.mp hv
      have h1 := pc_rm h512 hv
      cases m with
      | zero => omega
      | succ m =>
        obtain ⟨c, hc⟩ := colour G hno m (rm L v) (rm_lt hL) (by omega)
        have old : ∀ i j, i ≠ v → j ≠ v → L.testBit i = true → L.testBit j = true → (N i).testBit j = true → c i ≠ c j := fun i j hi hj h2 h3 h4 => hc i j ((rm_tb h512 v i).mpr ⟨h2, hi⟩) ((rm_tb h512 v j).mpr ⟨h3, hj⟩) h4
        by_cases hp2 : ∃ p, L.testBit p = true ∧ (N v).testBit p = true
        · obtain ⟨p, hp1, hp2⟩ := hp2
          have uni : ∀ q, L.testBit q = true → (N v).testBit q = true → q = p := fun q h2 h3 => by
            refine Classical.byContradiction fun hne => hv2 ⟨q, p, hne, h2, hp1, h3, hp2⟩
          have hpv : p ≠ v := fun e => by
            rw [e, G.2.2.2.2.2] at hp2; cases hp2
          refine ⟨fun i => if i = v then !c p else c i, fun i j hi hj hij => ?_⟩
          by_cases e1 : i = v
          · subst e1
            have e2 := uni j hj hij
            subst e2
            simp only [if_neg hpv, if_pos]
            cases c j <;> decide
          · by_cases e2 : j = v
            · subst e2
              have e3 := uni i hi (by rw [G.2.2.2.2.1]; exact hij)
              subst e3
              simp only [if_neg e1, if_pos]
              cases c i <;> decide
            · simp only [if_neg e1, if_neg e2]
              exact old i j e1 e2 hi hj hij
        · refine ⟨c, fun i j hi hj hij => ?_⟩
          by_cases e1 : i = v
          · subst e1
            exact absurd ⟨j, hj, hij⟩ hp2
          · by_cases e2 : j = v
            · subst e2
              exact absurd ⟨i, hi, by rw [G.2.2.2.2.1]; exact hij⟩ hp2
            · exact old i j e1 e2 hi hj hij
/-- all of a set have one colour -/
def Mo (c : Nat → Bool) (x : Bool) (s : Nat) : Prop := ∀ i, s.testBit i = true → c i = x
theorem Mo_nts (G : GW n N) {c : Nat → Bool} (hc : ∀ i j, i < n → j < n → (N i).testBit j = true → c i ≠ c j) {x : Bool} {s : Nat} (h : Mo c x s) : Mo c (!x) (nts n N s) := by
  intro j hj
  obtain ⟨k, h1, h2⟩ := (nts_tb G).mp hj
  have h3 := hc k j (G.tb h2).1 (G.tb h2).2 h2
  rw [h k h1] at h3
  cases hx : c j <;> cases x <;> rw [hx] at h3 <;> first | rfl | exact absurd rfl h3
theorem Mo_nd {c : Nat → Bool} {x : Bool} {s r : Nat} (hs : s < 512) (h : Mo c x s) : Mo c x (nd s r) := fun i hi => h i (nd_Sb hs i hi)
theorem Mo_bh (G : GW n N) {c : Nat → Bool} (hc : ∀ i j, i < n → j < n → (N i).testBit j = true → c i ≠ c j) {x : Bool} {s r : Nat} (hs : s < 512) (h : Mo c x s) : Mo c (!x) (bh n N s r) := Mo_nts G hc (Mo_nd hs h)
theorem few_sets : ∀ A : Nat, A < 256 → pc A ≤ 4 → 240 ≤ sm (fun T => (!decide (T &&& A = T)).toNat) 256 := by decide +kernel
theorem few_rooms : ∀ A : Nat, A < 256 → pc A ≤ 4 ∨ pc (nd 255 A) ≤ 4 := by decide +kernel
theorem sub_and {T A : Nat} : T &&& A = T ↔ Sb T A := by
  constructor
  · intro h i hi
    rw [← h, Nat.testBit_and, Bool.and_eq_true] at hi
    exact hi.2
  · intro h
    apply Nat.eq_of_testBit_eq
    intro i
    rw [Nat.testBit_and]
    cases hi : T.testBit i with
    | false => rfl
    | true => rw [h i hi]; rfl
/-- behind the sets of a colour that few rooms have, 32 shots are enough, if any are -/
theorem few (G : GW n N) (h8 : n ≤ 8) {c : Nat → Bool} (hc : ∀ i j, i < n → j < n → (N i).testBit j = true → c i ≠ c j) {x : Bool} (hA : pc (setB n (fun i => c i == x)) ≤ 4) {k T : Nat} (hT : T < 2 ^ n) (hM : Mo c x T) (h : hq n N k (nts n N T) = true) : hq n N 32 (nts n N T) = true := by
  have h256 : 2 ^ n ≤ 256 := Nat.pow_le_pow_right (n := 2) (by decide) h8
  have lt256 : ∀ s, nts n N s < 256 := fun s => Nat.lt_of_lt_of_le (nts_lt G s) h256
  generalize hAe : setB n (fun i => c i == x) = A at hA
  have hA2 : A < 256 := by rw [← hAe]; exact Nat.lt_of_lt_of_le (setB_lt _ n) h256
  have inA : ∀ s, s < 2 ^ n → Mo c x s → s &&& A = s := fun s hs h1 => sub_and.mpr (fun i hi => by
    rw [← hAe, setB_tb, decide_eq_true (lt_pow_bits hs hi), h1 i hi]
    cases x <;> rfl)
  have ofA : ∀ s, s &&& A = s → Mo c x s := fun s hs i hi => by
    have := sub_and.mp hs i hi
    rw [← hAe, setB_tb, Bool.and_eq_true] at this
    exact eq_of_beq this.2
  have two : ∀ s r r2 : Nat, s &&& A = s → (nd (nts n N (nd (nts n N s) (2 ^ r))) (2 ^ r2)) &&& A = nd (nts n N (nd (nts n N s) (2 ^ r))) (2 ^ r2) ∧ nd (nts n N (nd (nts n N s) (2 ^ r))) (2 ^ r2) < 256 := fun s r r2 hs => by
    have m1 := Mo_nts G hc (ofA s hs)
    have m2 := Mo_bh G hc (r := r) (nts_lt9 G s) m1
    rw [Bool.not_not] at m2
    have m3 := Mo_nd (r := 2 ^ r2) (nts_lt9 G _) m2
    have hl : nd (nts n N (nd (nts n N s) (2 ^ r))) (2 ^ r2) < 2 ^ n := nd_lt2 (nts_lt G _)
    exact ⟨inA _ hl m3, Nat.lt_of_lt_of_le hl h256⟩
  have key := stab (P := fun k T => (!decide (T &&& A = T)) || hq n N (2 * k) (nts n N T)) (m := 256) (c0 := 240)
    (fun k t _ h => by
      rw [Bool.or_eq_true] at h ⊢
      rcases h with h | h
      · exact Or.inl h
      · exact Or.inr (hq_le (by omega) h))
    (fun k hk t ht => by
      by_cases ht2 : t &&& A = t
      · have e : ∀ s, s &&& A = s → s < 256 → hq n N (2 * (k + 1)) (nts n N s) = hq n N (2 * k) (nts n N s) := fun s hs hs2 => by
          have := hk s hs2
          simpa only [decide_eq_true hs, Bool.not_true, Bool.false_or] using this
        simp only [decide_eq_true ht2, Bool.not_true, Bool.false_or]
        show (decide (nts n N t = 0) || anyB n (fun r => decide (bh n N (nts n N t) r = 0) || anyB n (fun r2 => hq n N (2 * (k + 1)) (bh n N (bh n N (nts n N t) r) r2)))) = (decide (nts n N t = 0) || anyB n (fun r => decide (bh n N (nts n N t) r = 0) || anyB n (fun r2 => hq n N (2 * k) (bh n N (bh n N (nts n N t) r) r2))))
        congr 1
        refine anyB_congr (fun r _ => ?_)
        congr 1
        refine anyB_congr (fun r2 _ => ?_)
        obtain ⟨t1, t2⟩ := two t r r2 ht2
        exact e _ t1 t2
      · simp only [decide_eq_false ht2, Bool.not_false, Bool.true_or])
    (Nat.le_trans (few_sets A hA2 hA) (sm_le (fun T _ => by
      refine toNat_le (fun h => ?_)
      rw [h]
      rfl)))
  have h1 := key k T (Nat.lt_of_lt_of_le hT h256) (by
    rw [Bool.or_eq_true]
    exact Or.inr (hq_le (by omega) h))
  rw [decide_eq_true (inA T hT hM)] at h1
  exact h1
/-- of one colour: 34 shots are enough, if any are -/
theorem few_one (G : GW n N) (h8 : n ≤ 8) {c : Nat → Bool} (hc : ∀ i j, i < n → j < n → (N i).testBit j = true → c i ≠ c j) {x : Bool} (hA : pc (setB n (fun i => c i == x)) ≤ 4) {k X : Nat} (hX : X < 2 ^ n) (hM : Mo c x X) (h : hq n N k X = true) : hq n N 33 X = true := by
  have h512 := Nat.lt_of_lt_of_le hX (two_pow_le G.n9)
  rcases hq_succ_iff.mp (hq_step h) with h1 | ⟨r, hr, h1⟩
  · subst h1; exact hq_zero 33
  · exact hq_succ_iff.mpr (Or.inr ⟨r, hr, few G h8 hc hA (nd_lt2 hX) (Mo_nd h512 hM) h1⟩)
theorem few_any (G : GW n N) (h8 : n ≤ 8) {c : Nat → Bool} (hc : ∀ i j, i < n → j < n → (N i).testBit j = true → c i ≠ c j) {x : Bool} (hA : pc (setB n (fun i => c i == x)) ≤ 4) {k X : Nat} {y : Bool} (hX : X < 2 ^ n) (hM : Mo c y X) (h : hq n N k X = true) : hq n N 34 X = true := by
  have h512 := Nat.lt_of_lt_of_le hX (two_pow_le G.n9)
  by_cases e : y = x
  · subst e
    exact hq_step (few_one G h8 hc hA hX hM h)
  · rcases hq_succ_iff.mp (hq_step h) with h1 | ⟨r, hr, h1⟩
    · subst h1; exact hq_zero 34
    · have m := Mo_bh G hc (r := r) h512 hM
      have e2 : (!y) = x := by cases x <;> cases y <;> first | rfl | exact absurd rfl e
      rw [e2] at m
      exact hq_succ_iff.mpr (Or.inr ⟨r, hr, few_one G h8 hc hA (bh_lt G X r) m h1⟩)
theorem nts_or (G : GW n N) (s t : Nat) : nts n N (s ||| t) = nts n N s ||| nts n N t := by
  apply Nat.eq_of_testBit_eq
  intro i
  apply bool_eq
  rw [Nat.testBit_or, Bool.or_eq_true, nts_tb G, nts_tb G, nts_tb G]
  constructor
  · rintro ⟨k, h1, h2⟩
    rw [Nat.testBit_or, Bool.or_eq_true] at h1
    rcases h1 with h1 | h1
    · exact Or.inl ⟨k, h1, h2⟩
    · exact Or.inr ⟨k, h1, h2⟩
  · rintro (⟨k, h1, h2⟩ | ⟨k, h1, h2⟩)
    · exact ⟨k, by rw [Nat.testBit_or, h1]; rfl, h2⟩
    · exact ⟨k, by rw [Nat.testBit_or, h1, Bool.or_true], h2⟩
theorem nd_or_l (s t r : Nat) : nd (s ||| t) r = nd s r ||| nd t r := Nat.and_or_distrib_right s t (r ^^^ 511)
theorem bh_or (G : GW n N) (s t r : Nat) : bh n N (s ||| t) r = bh n N s r ||| bh n N t r := by
  unfold bh
  rw [nd_or_l, nts_or G]
/-- first the one, then what is left of the other -/
theorem both (G : GW n N) {c : Nat → Bool} (hc : ∀ i j, i < n → j < n → (N i).testBit j = true → c i ≠ c j) {K : Nat} (hK : ∀ Y y, Y < 2 ^ n → Mo c y Y → hq n N K Y = true) : ∀ j X Y y, Y < 2 ^ n → Mo c y Y → hq n N j X = true → hq n N (j + K) (X ||| Y) = true
  | 0, X, Y, y, hY, hM, h => by
    have e : X = 0 := of_decide_eq_true h
    subst e
    rw [Nat.zero_or, Nat.zero_add]
    exact hK Y y hY hM
  | j + 1, X, Y, y, hY, hM, h => by
    rcases hq_succ_iff.mp h with e | ⟨r, hr, h1⟩
    · subst e
      rw [Nat.zero_or]
      exact hq_le (by omega) (hK Y y hY hM)
    · have h512 := Nat.lt_of_lt_of_le hY (two_pow_le G.n9)
      have := both G hc hK j _ _ _ (bh_lt G Y r) (Mo_bh G hc (r := r) h512 hM) h1
      rw [← bh_or G] at this
      rw [show j + 1 + K = (j + K) + 1 by omega]
      exact hq_succ_iff.mpr (Or.inr ⟨r, hr, this⟩)
theorem Sb_all {s : Nat} (h : s < 2 ^ n) : Sb s (2 ^ n - 1) := fun i hi => sub_all h i hi
/-- THE BOUND -/
theorem hunt_few (G : GW n N) (h8 : n ≤ 8) {k : Nat} (h : hq n N k (2 ^ n - 1) = true) : hq n N 68 (2 ^ n - 1) = true := by
  have h512 := two_pow_le G.n9
  have h1p := Nat.one_le_two_pow (n := n)
  have hall : 2 ^ n - 1 < 2 ^ n := by omega
  have hno : ∀ L, L < 2 ^ n → L ≠ 0 → ¬ Cor N L := fun L hL h0 hC => by
    rw [cor_safe G h0 hC k (2 ^ n - 1) (by omega) (Sb_all hL)] at h
    cases h
  obtain ⟨c, hc0⟩ := colour G hno _ (2 ^ n - 1) hall (Nat.le_refl _)
  have hc : ∀ i j, i < n → j < n → (N i).testBit j = true → c i ≠ c j := fun i j hi hj => hc0 i j (tb_all.mpr hi) (tb_all.mpr hj)
  have hfew : ∃ x, pc (setB n (fun i => c i == x)) ≤ 4 := by
    have h256 : 2 ^ n ≤ 256 := Nat.pow_le_pow_right (n := 2) (by decide) h8
    rcases few_rooms (setB n (fun i => c i == true)) (Nat.lt_of_lt_of_le (setB_lt _ n) h256) with h1 | h1
    · exact ⟨true, h1⟩
    · refine ⟨false, Nat.le_trans (pc_mono (fun i hi => ?_)) h1⟩
      rw [setB_tb, Bool.and_eq_true, decide_eq_true_eq] at hi
      rw [tb_nd (by decide), setB_tb, show (255 : Nat) = 2 ^ 8 - 1 from rfl, tb_all.mpr (show i < 8 by omega)]
      have e : c i = false := eq_of_beq hi.2
      rw [e]
      simp
  obtain ⟨x, hA⟩ := hfew
  have hK : ∀ Y y, Y < 2 ^ n → Mo c y Y → hq n N 34 Y = true := fun Y y hY hM => few_any G h8 hc hA hY hM (hq_sub G (by omega) (by omega) (Sb_all hY) h)
  have hX : setB n (fun i => c i == true) ||| setB n (fun i => c i == false) = 2 ^ n - 1 := by
    apply Nat.eq_of_testBit_eq
    intro i
    rw [Nat.testBit_or, setB_tb, setB_tb, Nat.testBit_two_pow_sub_one]
    cases decide (i < n) <;> cases c i <;> rfl
  have hm : ∀ x, Mo c x (setB n (fun i => c i == x)) := fun x i hi => by
    rw [setB_tb, Bool.and_eq_true] at hi
    exact eq_of_beq hi.2
  have h2 := both G hc hK 34 (setB n (fun i => c i == true)) (setB n (fun i => c i == false)) false (setB_lt _ n) (hm false) (hK _ true (setB_lt _ n) (hm true))
  rw [hX] at h2
  exact h2
theorem hunt_68 (G : GW n N) (h8 : n ≤ 8) (h : Hn n N (2 ^ n - 1) < 512) : Hn n N (2 ^ n - 1) ≤ 68 := Hn_le_of (hunt_few G h8 (Hn_yes h))
/-! shots at what is aimed at -/
theorem aim_ok (G : GW n N) {s : Nat} (h0 : s ≠ 0) (h : Hn n N s < 512) : ∃ r, r < n ∧ aimV n N s = I r ∧ Hn n N (bh n N s r) + 1 = Hn n N s := by
  have hp := Hn_pos (n := n) (N := N) h0
  have h1 := Hn_yes h
  obtain ⟨t, ht⟩ : ∃ t, Hn n N s = t + 1 := ⟨Hn n N s - 1, by omega⟩
  rw [ht] at h1
  have ex : ∃ r, r < n ∧ Hn n N (bh n N s r) = t := by
    rcases hq_succ_iff.mp h1 with h2 | ⟨r, hr, h2⟩
    · exact absurd h2 h0
    · refine ⟨r, hr, Hn_eq (by omega) h2 (fun i hi => ?_)⟩
      cases h3 : hq n N i (bh n N s r) with
      | false => rfl
      | true =>
        have := Hn_le_of (hq_succ_iff.mpr (Or.inr ⟨r, hr, h3⟩))
        omega
  obtain ⟨r, hr, h2⟩ := ex
  have hl : aimB n N s < n := by
    refine Nat.lt_of_not_le fun hge => ?_
    have := ff_no (fun r => decide (Hn n N (bh n N s r) = Hn n N s - 1)) n 0 r (Nat.zero_le _) (by show r < aimB n N s; omega)
    rw [ht, h2] at this
    exact absurd this (by simp)
  have h3 := ff_yes (fun r => decide (Hn n N (bh n N s r) = Hn n N s - 1)) n 0 (by show aimB n N s < 0 + n; omega)
  have h4 : Hn n N (bh n N s (aimB n N s)) = Hn n N s - 1 := of_decide_eq_true h3
  refine ⟨aimB n N s, hl, ?_, by omega⟩
  unfold aimV
  rw [if_neg (fun z => by rcases z with z | z | z <;> omega)]
theorem aim_no {s : Nat} (h : Hn n N s = 512) : aimV n N s = -1 := by
  unfold aimV
  rw [if_pos (Or.inr (Or.inl h))]
end
