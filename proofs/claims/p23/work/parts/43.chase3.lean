/-! THE CHASE, class: the table from its beginning to its end, and what is read from it. -/
section
variable {E : Nat × (Nat → Int32)} {w : Wd} {d n : Nat} {N : Nat → Nat}
/-- the beginning, as far as the pair (a, b) -/
def P0 (n : Nat) (N : Nat → Nat) (a b : Nat) (f5 f4 : Nat → Int32) : Prop :=
  (∀ a' b', a' < n → pl n b' → f5 (pr a' b') = if a' < a ∨ (a' = a ∧ b' < b) then I (WM n N 0 a' b') else 0) ∧ ∀ a' b' r, a' < n → pl n b' → r < n → f4 (cl a' b' r) = if a' < a ∨ (a' = a ∧ b' < b) then tk n N 0 a' b' r else -1
theorem tk0 {a b r : Nat} : tk n N 0 a b r = if ctB a b r = true then I 0 else -1 := by
  unfold tk
  show (if ctB a b r = true then I (tau n N a b r) else -1) = _
  by_cases h : ctB a b r = true
  · rw [if_pos h, if_pos h, tau_zero.mpr (ct_iff.mp h)]
  · rw [if_neg h, if_neg h]
theorem P0_next (hn : n ≤ 9) {a b : Nat} {f5 f4 f4' : Nat → Int32} (ha : a < n) (hb : pl n b) (P : P0 n N a b f5 f4)
    (h1 : ∀ r, r < n → f4' (cl a b r) = if (ctB a b r && !(0 : Nat).testBit r) = true then I 0 else f4 (cl a b r)) (h2 : ∀ i, (∀ r, r < n → i ≠ cl a b r) → f4' i = f4 i) :
    P0 n N a (b + 1) (upd f5 (pr a b) (I (setB n (fun r => (0 : Nat).testBit r || ctB a b r)))) f4' := by
  obtain ⟨p1, p2⟩ := P
  have hb9 := pl9 hn hb
  refine ⟨fun a' b' ha' hb' => ?_, fun a' b' r ha' hb' hr => ?_⟩
  · by_cases e : a' = a ∧ b' = b
    · obtain ⟨rfl, rfl⟩ := e
      rw [upd_same, if_pos (by omega)]
      unfold WM
      congr 1
      exact setB_congr (fun r _ => by rw [Nat.zero_testBit, Bool.false_or]; rfl)
    · rw [upd_ne (fun z => e (pr_inj (pl9 hn hb') hb9 z)), p1 a' b' ha' hb']
      by_cases h3 : a' < a ∨ (a' = a ∧ b' < b)
      · rw [if_pos h3, if_pos (by omega)]
      · rw [if_neg h3, if_neg (by omega)]
  · by_cases e : a' = a ∧ b' = b
    · obtain ⟨rfl, rfl⟩ := e
      rw [h1 r hr, if_pos (show a' < a' ∨ (a' = a' ∧ b' < b' + 1) by omega), tk0, Nat.zero_testBit, Bool.not_false, Bool.and_true]
      by_cases h : ctB a' b' r = true
      · rw [if_pos h, if_pos h]
      · rw [if_neg h, if_neg h, p2 a' b' r ha' hb' hr, if_neg (by omega)]
    · rw [h2 _ (fun r' hr' z => e (by have := cl_inj (pl9 hn hb') hb9 (by omega) (by omega) z; exact ⟨this.1, this.2.1⟩)), p2 a' b' r ha' hb' hr]
      by_cases h3 : a' < a ∨ (a' = a ∧ b' < b)
      · rw [if_pos h3, if_pos (by omega)]
      · rw [if_neg h3, if_neg (by omega)]
theorem P0_skip {a b : Nat} {f5 f4 : Nat → Int32} (hb : ¬ pl n b) (P : P0 n N a b f5 f4) : P0 n N a (b + 1) f5 f4 := by
  obtain ⟨p1, p2⟩ := P
  have key : ∀ a' b', pl n b' → ((a' < a ∨ (a' = a ∧ b' < b + 1)) ↔ (a' < a ∨ (a' = a ∧ b' < b))) := fun a' b' h => by
    have hne : b' ≠ b := fun z => hb (by rw [← z]; exact h)
    omega
  refine ⟨fun a' b' ha' hb' => ?_, fun a' b' r ha' hb' hr => ?_⟩
  · rw [p1 a' b' ha' hb']
    by_cases h3 : a' < a ∨ (a' = a ∧ b' < b)
    · rw [if_pos h3, if_pos ((key a' b' hb').mpr h3)]
    · rw [if_neg h3, if_neg (fun z => h3 ((key a' b' hb').mp z))]
  · rw [p2 a' b' r ha' hb' hr]
    by_cases h3 : a' < a ∨ (a' = a ∧ b' < b)
    · rw [if_pos h3, if_pos ((key a' b' hb').mpr h3)]
    · rw [if_neg h3, if_neg (fun z => h3 ((key a' b' hb').mp z))]
theorem P0_row (hn : n ≤ 9) {a : Nat} {f5 f4 : Nat → Int32} (P : P0 n N a 10 f5 f4) : P0 n N (a + 1) 0 f5 f4 := by
  obtain ⟨p1, p2⟩ := P
  have key : ∀ a' b', pl n b' → ((a' < a + 1 ∨ (a' = a + 1 ∧ b' < 0)) ↔ (a' < a ∨ (a' = a ∧ b' < 10))) := fun a' b' h => by
    have := pl9 hn h
    omega
  refine ⟨fun a' b' ha' hb' => ?_, fun a' b' r ha' hb' hr => ?_⟩
  · rw [p1 a' b' ha' hb']
    by_cases h3 : a' < a ∨ (a' = a ∧ b' < 10)
    · rw [if_pos h3, if_pos ((key a' b' hb').mpr h3)]
    · rw [if_neg h3, if_neg (fun z => h3 ((key a' b' hb').mp z))]
  · rw [p2 a' b' r ha' hb' hr]
    by_cases h3 : a' < a ∨ (a' = a ∧ b' < 10)
    · rw [if_pos h3, if_pos ((key a' b' hb').mpr h3)]
    · rw [if_neg h3, if_neg (fun z => h3 ((key a' b' hb').mp z))]
theorem sp10in (hd : 4 ≤ d) (hR : GR w n N) (G : GW n N) {a : Nat} (ha : a < n)
    (K : ∀ (f5 f4 : Nat → Int32) (u : Value), P0 n N (a + 1) 0 f5 f4 → ∃ f5' f4', Ev d 10 (18, [.ref 12, .ref 2, .int (I (a + 1)), u], [], hp E (sA 5 f5 (sA 4 f4 w))) (.inl none, hp E (sA 5 f5' (sA 4 f4' w))) ∧ P0 n N n 0 f5' f4') :
    ∀ (R b : Nat) (f5 f4 : Nat → Int32), b + R = 10 → P0 n N a b f5 f4 → ∃ f5' f4', Ev d 10 (28, [.ref 12, .ref 2, .int (I a), .int (I b)], [], hp E (sA 5 f5 (sA 4 f4 w))) (.inl none, hp E (sA 5 f5' (sA 4 f4' w))) ∧ P0 n N n 0 f5' f4'
  | 0, b, f5, f4, hb, P => by
    have : b = 10 := by omega
    subst this
    obtain ⟨f5', f4', e, hT⟩ := K f5 f4 (.int (I 10)) (P0_row G.n9 P)
    exact ⟨f5', f4', p10_28_c nlt10 (I_add a 1) e, hT⟩
  | R + 1, b, f5, f4, hb, P => by
    have hn := G.n9
    have hb9 : b ≤ 9 := by omega
    have hR' : GR (sA 5 f5 (sA 4 f4 w)) n N := hR
    have hp50 := sp46 (E := E) (d := d - 1) (by omega) hR' G hb9
    by_cases hpl : pl n b
    · have hpb : (decide (b < n) || decide (b = 9)) = true := pl_iff.mpr hpl
      rw [hpb] at hp50
      have hx : HB n (I (2 ^ a ||| 2 ^ b)) (fun r => ctB a b r) := ⟨_, or_lt1024 (pow_lt1024 (by omega)) (pow_lt1024 hb9), rfl, fun r hr => by rw [Nat.testBit_or, pow_bit, pow_bit]; rfl⟩
      have hK5 : gA (sA 5 f5 (sA 4 f4 w)) 5 (pr a b) = I 0 := by
        show f5 (pr a b) = I 0
        rw [P.1 a b ha hpl, if_neg (by omega)]; rfl
      obtain ⟨f4', e11, q1, q2⟩ := sp11 (E := E) (w := sA 5 f5 (sA 4 f4 w)) (d := d - 1) (m := 0) (by omega) hR' G ha hb9 hx hK5 (Nat.two_pow_pos n)
      have ew : sA 5 (upd (gA (sA 5 f5 (sA 4 f4 w)) 5) (pr a b) (I (setB n (fun r => (0 : Nat).testBit r || ctB a b r)))) (sA 4 f4' (sA 5 f5 (sA 4 f4 w))) = sA 5 (upd f5 (pr a b) (I (setB n (fun r => (0 : Nat).testBit r || ctB a b r)))) (sA 4 f4' w) := by
        rw [sA_comm (i := 4) (by decide), sA_sA, sA_sA]; rfl
      rw [ew] at e11
      obtain ⟨f5', f4'', e, hT⟩ := sp10in hd hR G ha K R (b + 1) _ _ (by omega) (P0_next hn ha hpl P q1 q2)
      exact ⟨f5', f4'', p10_28_a (by omega) (lt10 (by omega)) hp50 (by decide) (by rw [I_pow (by omega), I_pow (by omega), I_or]) e11 (I_add b 1) e, hT⟩
    · have hpb : (decide (b < n) || decide (b = 9)) = false := by
        cases hq : (decide (b < n) || decide (b = 9)) with
        | false => rfl
        | true => exact absurd (pl_iff.mp hq) hpl
      rw [hpb] at hp50
      obtain ⟨f5', f4', e, hT⟩ := sp10in hd hR G ha K R (b + 1) f5 f4 (by omega) (P0_skip hpl P)
      exact ⟨f5', f4', p10_28_b (by omega) (lt10 (by omega)) hp50 rfl (I_add b 1) e, hT⟩
theorem sp10out (hd : 4 ≤ d) (hR : GR w n N) (G : GW n N) : ∀ (R a : Nat) (f5 f4 : Nat → Int32) (u : Value), a + R = n → P0 n N a 0 f5 f4 → ∃ f5' f4', Ev d 10 (18, [.ref 12, .ref 2, .int (I a), u], [], hp E (sA 5 f5 (sA 4 f4 w))) (.inl none, hp E (sA 5 f5' (sA 4 f4' w))) ∧ P0 n N n 0 f5' f4'
  | 0, a, f5, f4, u, ha, P => by
    have : a = n := by omega
    subst this
    exact ⟨f5, f4, p10_18_b (by omega) (nlt_n hR.1 G.n9 (Nat.le_refl _) (by have := G.n9; omega)), P⟩
  | R + 1, a, f5, f4, u, ha, P => by
    obtain ⟨f5', f4', e, hT⟩ := sp10in hd hR G (show a < n by omega) (fun f5 f4 u P => sp10out hd hR G R (a + 1) f5 f4 u (by omega) P) 10 0 f5 f4 (by omega) P
    exact ⟨f5', f4', p10_18_a (by omega) (lt_n hR.1 G.n9 (by omega)) e, hT⟩
theorem sp10 (hd : 4 ≤ d) (hR : GR w n N) (G : GW n N) : ∃ f5 f4, Ev d 10 (ent0 10 [.ref 12, .ref 2] (hp E w)) (.inl none, hp E (sA 5 f5 (sA 4 f4 w))) ∧ T5 n N 0 f5 ∧ T4 n N 0 f4 := by
  have hn := G.n9
  have P : P0 n N 0 0 (ra 90 (gA w 5) 0) (ra 810 (gA w 4) (-1)) := by
    refine ⟨fun a' b' ha' hb' => ?_, fun a' b' r ha' hb' hr => ?_⟩
    · have := pr_lt (show a' < 9 by omega) (pl9 hn hb')
      rw [if_neg (by omega)]
      unfold ra
      rw [if_pos this]
    · have := cl_lt (show a' < 9 by omega) (pl9 hn hb') (show r < 9 by omega)
      rw [if_neg (by omega)]
      unfold ra
      rw [if_pos this]
  obtain ⟨f5', f4', e, p1, p2⟩ := sp10out (E := E) hd hR G n 0 _ _ jk (by omega) P
  refine ⟨f5', f4', p10_e_a (by omega) rfl e, fun a b ha hb => ?_, fun a b r ha hb hr => ?_⟩
  · rw [p1 a b ha hb, if_pos (Or.inl ha)]
  · rw [p2 a b r ha hb hr, if_pos (Or.inl ha)]
/-! the end of the table -/
def tv (t : Nat) : Int32 := if t < 99 then I t else -1
/-- the class's table is right -/
def CT (w : Wd) (n : Nat) (N : Nat → Nat) : Prop := (∀ a b r, a < n → pl n b → r < n → gA w 4 (cl a b r) = tv (tau n N a b r)) ∧ ∀ a b, a < n → pl n b → gA w 5 (pr a b) = I (setB n (fun r => decide (tau n N a b r < 99)))
/-- no more to come behind level k -/
def Fin (n : Nat) (N : Nat → Nat) (k : Nat) : Prop := ∀ j a b r, a < n → pl n b → r < n → wc n N j a b r = true → wc n N k a b r = true
theorem Fin_of (G : GW n N) {k : Nat} (h : ∀ a b r, a < n → pl n b → r < n → wc n N (k + 1) a b r = true → wc n N k a b r = true) : Fin n N k := by
  intro j
  induction j with
  | zero => intro a b r _ _ _ h1; exact wc_le (Nat.zero_le _) h1
  | succ j ih =>
    intro a b r ha hb hr h1
    rcases wc_succ.mp h1 with h2 | ⟨x, hx, h2, y, hy, h3, h4⟩
    · exact wc_caught h2
    · refine h a b r ha hb hr (wc_succ.mpr (Or.inr ⟨x, hx, h2, y, hy, h3, ?_⟩))
      rw [rb_iff] at h4 ⊢
      rcases h4 with h4 | h4
      · exact Or.inl h4
      · exact Or.inr (fun z hz hnz => ih x y z hx (pl_near G hb h3) hz (h4 z hz hnz))
theorem Fin_tau (C : CAP n N) {k a b r : Nat} (F : Fin n N k) (ha : a < n) (hb : pl n b) (hr : r < n) : wc n N k a b r = true ↔ tau n N a b r < 99 :=
  ⟨fun h => by have := tau_le_of (C k a b r ha hb hr h); omega, fun h => F _ a b r ha hb hr (tau_yes h)⟩
theorem CT_of (C : CAP n N) {k : Nat} {w : Wd} (F : Fin n N k) (h5 : T5 n N k (gA w 5)) (h4 : T4 n N k (gA w 4)) : CT w n N := by
  refine ⟨fun a b r ha hb hr => ?_, fun a b ha hb => ?_⟩
  · rw [h4 a b r ha hb hr]
    unfold tk tv
    by_cases h : tau n N a b r < 99
    · rw [if_pos ((Fin_tau C F ha hb hr).mpr h), if_pos h]
    · rw [if_neg (fun z => h ((Fin_tau C F ha hb hr).mp z)), if_neg h]
  · rw [h5 a b ha hb]
    unfold WM
    congr 1
    refine setB_congr (fun r hr => bool_eq ?_)
    rw [Fin_tau C F ha hb hr, decide_eq_true_eq]
def wch (f4 f5 f6 f7 : Nat → Int32) (w : Wd) : Wd := sA 5 f5 (sA 4 f4 (sA 7 f7 (sA 6 f6 w)))
theorem sp7loop (hd : 5 ≤ d) (hR : GR w n N) (G : GW n N) (C : CAP n N) : ∀ e k (f4 f5 f6 f7 : Nat → Int32) (gr : Bool), k + e = 810 → T5 n N k f5 → T4 n N k f4 → (gr = false → Fin n N k) → ∃ g4 g5 g6 g7, Ev d 7 (21, [.ref 12, .ref 2, .int (bI gr), .int (I (k + 1))], [], hp E (wch f4 f5 f6 f7 w)) (.inl none, hp E (sF 4 (gF w 2) (wch g4 g5 g6 g7 w))) ∧ CT (sF 4 (gF w 2) (wch g4 g5 g6 g7 w)) n N
  | e, k, f4, f5, f6, f7, false, _, h5, h4, hf => ⟨f4, f5, f6, f7, p7_21_c (by omega) rfl rfl, CT_of C (k := k) (hf rfl) h5 h4⟩
  | 0, k, f4, f5, f6, f7, true, hk, h5, h4, _ => by
    have : k = 810 := by omega
    subst this
    exact ⟨f4, f5, f6, f7, p7_21_b (by omega) (by decide) (by decide) rfl, CT_of C (k := 810) (fun j a b r ha hb hr h => wc_le (by decide) (C j a b r ha hb hr h)) h5 h4⟩
  | e + 1, k, f4, f5, f6, f7, true, hk, h5, h4, _ => by
    have hR0 : GR (wch f4 f5 f6 f7 w) n N := hR
    obtain ⟨g6, e1, h6⟩ := sp12 (E := E) (w := wch f4 f5 f6 f7 w) (d := d - 1) (by omega) hR0 G (k := k) h5
    obtain ⟨g7, e2, h7⟩ := sp14 (E := E) (w := sA 6 g6 (wch f4 f5 f6 f7 w)) (d := d - 1) (by omega) hR0 G (k := k) h6
    have ew : sA 7 g7 (sA 6 g6 (wch f4 f5 f6 f7 w)) = sA 5 f5 (sA 4 f4 (sA 7 g7 (sA 6 g6 w))) := by
      unfold wch
      rw [sA_comm (i := 6) (j := 5) (by decide), sA_comm (i := 6) (j := 4) (by decide), sA_comm (i := 6) (j := 7) (by decide), sA_sA, sA_comm (i := 7) (j := 5) (by decide), sA_comm (i := 7) (j := 4) (by decide), sA_sA]
    have hR2 : GR (sA 7 g7 (sA 6 g6 w)) n N := hR
    obtain ⟨g5, g4, g, e3, h15a, h15b, h15c⟩ := sp15 (E := E) (w := sA 7 g7 (sA 6 g6 w)) (d := d - 1) (by omega) hR2 G C (k := k) h5 h4 h7
    rw [ew] at e2
    obtain ⟨k4, k5, k6, k7, e4, hc⟩ := sp7loop hd hR G C e (k + 1) g4 g5 g6 g7 g (by omega) h15a h15b (fun hg => by
      have F := Fin_of G (h15c hg)
      exact fun j a b r ha hb hr h => wc_step (F j a b r ha hb hr h))
    refine ⟨k4, k5, k6, k7, p7_21_a (by omega) (by decide) ?_ e1 e2 e3 (I_add (k + 1) 1) e4, hc⟩
    show ¬ I 810 < I (k + 1)
    rw [I_lt (by omega) (by omega)]; omega
theorem sp7n (hd : 5 ≤ d) (hR : GR w n N) (G : GW n N) (C : CAP n N) (hv : ¬ gF w 4 = gF w 2) : ∃ g4 g5 g6 g7, Ev d 7 (ent0 7 [.ref 12, .ref 2] (hp E w)) (.inl none, hp E (sF 4 (gF w 2) (wch g4 g5 g6 g7 w))) ∧ CT (sF 4 (gF w 2) (wch g4 g5 g6 g7 w)) n N := by
  obtain ⟨f5, f4, e1, h5, h4⟩ := sp10 (E := E) (d := d - 1) (by omega) hR G
  have ew : sA 5 f5 (sA 4 f4 w) = wch f4 f5 (gA w 6) (gA w 7) w := by
    unfold wch
    rw [sA_self 6 w, sA_self 7 w]
  rw [ew] at e1
  obtain ⟨k4, k5, k6, k7, e4, hc⟩ := sp7loop (E := E) hd hR G C 810 0 f4 f5 (gA w 6) (gA w 7) true rfl h5 h4 (fun h => by cases h)
  exact ⟨k4, k5, k6, k7, p7_e_b (by omega) hv e1 e4, hc⟩
/-! what is read from it -/
theorem sp16 {a b r : Nat} (hd : 2 ≤ d) (hT : CT w n N) (G : GW n N) (ha : a < n) (hb : pl n b) (hr : r < n) : Ev d 16 (ent0 16 [.ref 12, .int (I a), .int (I b), .int (I r)] (hp E w)) (.inl (some (.int (tv (tau n N a b r)))), hp E w) := by
  have hn := G.n9
  have := cl_lt (show a < 9 by omega) (pl9 hn hb) (show r < 9 by omega)
  exact p16_e_a hd (I_cl a b r) (by omega) (by rw [rv_in this]; exact hT.1 a b r ha hb hr)
theorem tv_m1 {t : Nat} : tv t = -1 ↔ 99 ≤ t := by
  unfold tv
  by_cases h : t < 99
  · rw [if_pos h]
    exact ⟨fun z => absurd z (I_ne_m1 (by omega)), fun z => by omega⟩
  · rw [if_neg h]
    exact ⟨fun _ => by omega, fun _ => rfl⟩
theorem tv_I {t : Nat} (h : t < 99) : tv t = I t := by unfold tv; rw [if_pos h]
/-- the robber's longest -/
def mxt (n : Nat) (N : Nat → Nat) (a b r j : Nat) : Nat := fl (fun x m => if nr N r x = true then max m (tau n N a b x) else m) j 0
theorem mxt_le {a b r : Nat} : ∀ {j k : Nat}, mxt n N a b r j ≤ k ↔ ∀ x, x < j → nr N r x = true → tau n N a b x ≤ k
  | 0, k => by
    constructor
    · intro _ x hx; omega
    · intro _; exact Nat.zero_le _
  | j + 1, k => by
    have ih := mxt_le (a := a) (b := b) (r := r) (j := j) (k := k)
    have e : mxt n N a b r (j + 1) = if nr N r j = true then max (mxt n N a b r j) (tau n N a b j) else mxt n N a b r j := rfl
    rw [e]
    by_cases h : nr N r j = true
    · rw [if_pos h, Nat.max_le, ih]
      constructor
      · rintro ⟨h1, h2⟩ x hx hnx
        by_cases e : x = j
        · subst e; exact h2
        · exact h1 x (by omega) hnx
      · intro h1
        exact ⟨fun x hx hnx => h1 x (by omega) hnx, h1 j (by omega) h⟩
    · rw [if_neg h, ih]
      constructor
      · intro h1 x hx hnx
        by_cases e : x = j
        · subst e; exact absurd hnx h
        · exact h1 x (by omega) hnx
      · intro h1 x hx hnx
        exact h1 x (by omega) hnx
theorem rho_mxt {a b r : Nat} (h : ¬ (a = r ∨ b = r)) {k : Nat} (hk : k < 99) : rho n N a b r ≤ k ↔ mxt n N a b r n ≤ k := by
  rw [← rb_rho hk, rb_iff, mxt_le]
  constructor
  · rintro (h1 | h1) x hx hnx
    · exact absurd h1 h
    · exact (wc_tau hk).mp (h1 x hx hnx)
  · intro h1
    exact Or.inr (fun x hx hnx => (wc_tau hk).mpr (h1 x hx hnx))
theorem mxt_99 {a b r : Nat} : mxt n N a b r n ≤ 99 := mxt_le.mpr (fun x _ _ => tau_le _ _ _)
theorem rho_eq {a b r : Nat} (h : ¬ (a = r ∨ b = r)) : rho n N a b r = mxt n N a b r n := by
  have h1 := rho_le (n := n) (N := N) a b r
  have h2 := mxt_99 (n := n) (N := N) (a := a) (b := b) (r := r)
  by_cases h3 : rho n N a b r < 99
  · have h4 := (rho_mxt h h3).mp (Nat.le_refl _)
    have h5 := (rho_mxt (n := n) (N := N) h (k := mxt n N a b r n) (by omega)).mpr (Nat.le_refl _)
    omega
  · by_cases h4 : mxt n N a b r n < 99
    · have h5 := (rho_mxt (n := n) (N := N) h h4).mpr (Nat.le_refl _)
      omega
    · omega
theorem sp17 {a b r : Nat} (hd : 3 ≤ d) (hR : GR w n N) (hT : CT w n N) (G : GW n N) (ha : a < n) (hb : pl n b) (hr : r < n) : Ev d 17 (ent0 17 [.ref 12, .ref 2, .int (I a), .int (I b), .int (I r)] (hp E w)) (.inl (some (.int (tv (rho n N a b r)))), hp E w) := by
  have hn := G.n9
  have hb9 := pl9 hn hb
  by_cases h1 : r = a
  · rw [rho_zero_of (Or.inl h1.symm)]
    exact p17_e_c (by rw [h1])
  · have h1' : ¬ I r = I a := fun z => h1 ((I_inj (by omega) (by omega)).mp z)
    by_cases h2 : r = b
    · rw [rho_zero_of (Or.inr h2.symm)]
      exact p17_e_a h1' (by rw [h2])
    · have h2' : ¬ I r = I b := fun z => h2 ((I_inj (by omega) (by omega)).mp z)
      have hnc : ¬ (a = r ∨ b = r) := fun z => by rcases z with z | z <;> omega
      have key := down (n := n) (Q := fun j => mxt n N a b r j < 99 → ∀ u, Ev d 17 (20, [.ref 12, .ref 2, .int (I a), .int (I b), .int (I r), .int (I (mxt n N a b r j)), .int (I j), u], [], hp E w) (.inl (some (.int (tv (rho n N a b r)))), hp E w)) (fun j hj e hm u => ?_) (fun hm u => ?_) 0 (Nat.zero_le _)
      · exact p17_e_b h1' h2' (key (by show (0 : Nat) < 99; decide) _)
      · have h3 := sp48 (E := E) (d := d - 1) (by omega) hR G (show r ≤ 9 by omega) (show j ≤ 9 by omega)
        have e0 : mxt n N a b r (j + 1) = if nr N r j = true then max (mxt n N a b r j) (tau n N a b j) else mxt n N a b r j := rfl
        cases hq : nr N r j with
        | false =>
          rw [hq] at h3
          rw [if_neg (by rw [hq]; decide)] at e0
          rw [e0] at e
          exact p17_20_c (by omega) (lt_n hR.1 hn hj) h3 rfl (I_add j 1) (e hm _)
        | true =>
          rw [hq] at h3
          rw [if_pos hq] at e0
          have h4 := sp16 (E := E) (d := d - 1) (by omega) hT G ha hb hj
          by_cases h5 : tau n N a b j < 99
          · rw [tv_I h5] at h4
            rw [e0] at e
            refine p17_20_b (by omega) (lt_n hR.1 hn hj) h3 (by decide) h4 (I_ne_m1 (by omega)) ?_ (I_add j 1) (e (by omega) _)
            by_cases h6 : mxt n N a b r j < tau n N a b j
            · rw [if_pos ((I_lt (by omega) (by omega)).mpr h6), Nat.max_eq_right (by omega)]
            · rw [if_neg (fun z => h6 ((I_lt (by omega) (by omega)).mp z)), Nat.max_eq_left (by omega)]
          · have h7 : rho n N a b r = 99 := by
              have h8 := rho_le (n := n) (N := N) a b r
              have h9 : tau n N a b j ≤ mxt n N a b r n := mxt_le.mp (Nat.le_refl _) j hj hq
              rw [rho_eq hnc]
              have := mxt_99 (n := n) (N := N) (a := a) (b := b) (r := r)
              omega
            rw [h7]
            exact p17_20_a (by omega) (lt_n hR.1 hn hj) h3 (by decide) h4 (tv_m1.mpr (by omega))
      · rw [rho_eq hnc, tv_I hm]
        exact p17_20_d (by omega) (nlt_n hR.1 hn (Nat.le_refl _) (by omega))
end
