/-! THE CHASE, reference: the whole filling. -/
section
variable {E : Nat × (Nat → Int32)} {w : Wd} {d n fb lb : Nat} {N : Nat → Nat}
theorem tw_self (w : Wd) : tw (gA w 16) (gA w 15) w = w := by
  unfold tw
  rw [sA_self 15 w, sA_self 16 w]
theorem fill_mid {x1 : Int32} (hd : 3 ≤ d) (hR : MR w n N) (G : GW n N) (hg : RG n N fb lb) {f g : Nat → Int32} (hfg : ∀ i, i < 810 → f i = I 99 ∧ g i = I 99) : GO E w d n N fb lb (65, [.ref 27, .int x1, .int (I fb), .int (I lb), .int (I 0), jk, jk, jk, jk, jk], [], hp E (tw f g w)) := by
  have hg' := hg
  obtain ⟨hfl, hlb, hcl, hpl⟩ := hg'
  have hn := G.n9
  let St := (Nat → Nat) × (Nat → Nat)
  have key : ∀ s : St, SND n N fb lb s.1 s.2 → ∀ f g u5 u6, AR (tw f g w) s.1 s.2 → GO E w d n N fb lb (65, [.ref 27, .int x1, .int (I fb), .int (I lb), .int (I 0), u5, u6, jk, jk, jk], [], hp E (tw f g w)) := by
    refine loop3 (fb := fb) (lb := lb) (n := n) (Base := fun s : St => SND n N fb lb s.1 s.2) (cond := fun s a b r => (a = r ∨ b = r) → s.1 (cl a b r) = 0 ∧ s.2 (cl a b r) = 0)
      (K1 := fun s a => ∀ f g u5 u6, AR (tw f g w) s.1 s.2 → GO E w d n N fb lb (65, [.ref 27, .int x1, .int (I fb), .int (I lb), .int (I a), u5, u6, jk, jk, jk], [], hp E (tw f g w)))
      (K2 := fun s a b => ∀ f g u6, AR (tw f g w) s.1 s.2 → GO E w d n N fb lb (77, [.ref 27, .int x1, .int (I fb), .int (I lb), .int (I a), .int (I b), u6, jk, jk, jk], [], hp E (tw f g w)))
      (K3 := fun s a b r => ∀ f g, AR (tw f g w) s.1 s.2 → GO E w d n N fb lb (86, [.ref 27, .int x1, .int (I fb), .int (I lb), .int (I a), .int (I b), .int (I r), jk, jk, jk], [], hp E (tw f g w)))
      hn hlb hfl ?_ ?_ ?_ ?_ ?_ ?_
    · intro s hB hc f g u5 u6 hA
      refine GO.map (fun o e => p118_65_b (nlt_n (x := gF (tw f g w) 9) hR.1 hn (Nat.le_refl _) (by omega)) e) ?_
      exact fill_rounds hd hR G hg _ s.1 s.2 true (Nat.le_refl _) hB hc (fun z => by cases z) f g _ _ _ _ _ hA
    · intro s a ha k f g u5 u6 hA
      exact GO.map (fun o e => p118_65_a (lt_n (x := gF (tw f g w) 9) hR.1 hn ha) e) (k f g u6 hA)
    · intro s a b ha hb1 hb2 k f g u6 hA
      exact GO.map (fun o e => p118_77_a (by rw [I_lt (by omega) (by omega)]; omega) e) (k f g hA)
    · intro s a ha k f g u6 hA
      exact GO.map (fun o e => p118_77_b ((I_lt (by omega) (by omega)).mpr (by omega)) (I_add a 1) e) (k f g _ u6 hA)
    · intro s a b r ha hb1 hb2 hr hB hc k f g hA
      obtain ⟨C, R⟩ := s
      have hci := cl_lt (show a < 9 by omega) (show b ≤ 9 by omega) (show r < 9 by omega)
      have hlt := lt_n (x := gF (tw f g w) 9) hR.1 hn hr
      have put : (a = r ∨ b = r) → GO E w d n N fb lb (86, [.ref 27, .int x1, .int (I fb), .int (I lb), .int (I a), .int (I b), .int (I (r + 1)), jk, jk, jk], [], hp E (tw (upd f (cl a b r) (I 0)) (upd g (cl a b r) (I 0)) w)) := fun h => by
        have hA1 := AR_15 (i := cl a b r) (v := 0) hA (by decide)
        have hA2 := AR_16 (i := cl a b r) (v := 0) hA1 (by decide)
        have hB1 := SND_15 (v := 0) hn hlb hB ha hb1 hb2 hr (fun _ => wc_caught h)
        have hB2 := SND_16 (v := 0) hn hlb hB1 ha hb1 hb2 hr (fun _ => rb_iff.mpr (Or.inl h))
        refine k (updN C (cl a b r) 0, updN R (cl a b r) 0) hB2 ?_ ?_ _ _ hA2
        · intro a' b' r' h1 h2 h3 h4 h5 h6
          have h7 : C (cl a' b' r') = 0 ∧ R (cl a' b' r') = 0 := hc a' b' r' h1 h2 h3 h4 h5 h6
          constructor
          · show updN C (cl a b r) 0 (cl a' b' r') = 0
            rw [updN_ne (by omega)]; exact h7.1
          · show updN R (cl a b r) 0 (cl a' b' r') = 0
            rw [updN_ne (by omega)]; exact h7.2
        · intro _
          exact ⟨updN_self _ _ _, updN_self _ _ _⟩
      by_cases e1 : a = r
      · exact GO.map (fun o e => p118_86_c (w' := tw (upd f (cl a b r) (I 0)) (upd g (cl a b r) (I 0)) w) (by omega) hlt (by rw [e1]) (I_cl a b r) hci (I_cl a b r) hci (I_add r 1) tw_30 e) (put (Or.inl e1))
      · have d1 : ¬ I a = I r := fun z => e1 ((I_inj (by omega) (by omega)).mp z)
        by_cases e2 : b = r
        · exact GO.map (fun o e => p118_86_a (w' := tw (upd f (cl a b r) (I 0)) (upd g (cl a b r) (I 0)) w) (by omega) hlt d1 (by rw [e2]) (I_cl a b r) hci (I_cl a b r) hci (I_add r 1) tw_30 e) (put (Or.inr e2))
        · have d2 : ¬ I b = I r := fun z => e2 ((I_inj (by omega) (by omega)).mp z)
          refine GO.map (fun o e => p118_86_b hlt d1 d2 (I_add r 1) e) (k (C, R) hB hc (fun z => ?_) f g hA)
          rcases z with z | z
          · exact absurd z e1
          · exact absurd z e2
    · intro s a b ha hb1 hb2 k f g hA
      exact GO.map (fun o e => p118_86_d (nlt_n (x := gF (tw f g w) 9) hR.1 hn (Nat.le_refl _) (by omega)) (I_add b 1) e) (k f g _ hA)
  exact key (fun _ => 99, fun _ => 99) (fun a b r _ _ _ _ => ⟨fun z => absurd z (Nat.lt_irrefl 99), fun z => absurd z (Nat.lt_irrefl 99)⟩) f g jk jk (fun i hi => ⟨(hfg i hi).2, (hfg i hi).1, Nat.le_refl _, Nat.le_refl _⟩)
set_option maxRecDepth 8000 in
theorem fill_init {x1 : Int32} (hd : 3 ≤ d) (hR : MR w n N) (G : GW n N) (hg : RG n N fb lb) : GO E w d n N fb lb (30, [.ref 27, .int x1, .int (I fb), .int (I lb), .int (I 0), jk, jk, jk, jk, jk], [], hp E w) := by
  have key := down (n := 810) (Q := fun j => ∀ f g, (∀ i, i < j → f i = I 99 ∧ g i = I 99) → GO E w d n N fb lb (30, [.ref 27, .int x1, .int (I fb), .int (I lb), .int (I j), jk, jk, jk, jk, jk], [], hp E (tw f g w))) (fun j hj e f g h => ?_) (fun f g h => ?_) 0 (Nat.zero_le _) (gA w 16) (gA w 15) (fun i hi => absurd hi (Nat.not_lt_zero _))
  · rw [tw_self] at key; exact key
  · refine GO.map (fun o e => p118_30_a (w' := tw (upd f j (I 99)) (upd g j (I 99)) w) (show I j < I 810 from (I_lt (by omega) (by decide)).mpr hj) rfl hj (I_add j 1) tw_30 e) (e _ _ (fun i hi => ?_))
    rw [upd_ap, upd_ap]
    by_cases h1 : i = j
    · rw [if_pos h1, if_pos h1]; exact ⟨rfl, rfl⟩
    · rw [if_neg h1, if_neg h1]; exact h i (by omega)
  · refine GO.map (fun o e => p118_30_b (show ¬ I 810 < I 810 from by rw [I_lt (by decide) (by decide)]; exact Nat.lt_irrefl _) e) (fill_mid hd hR G hg h)
theorem RG_one (G : GW n N) : RG n N 9 9 := by
  refine ⟨Nat.le_refl _, Nat.le_refl _, fun b y h1 h2 hy hn => ?_, fun b h1 h2 => Or.inr (by omega)⟩
  have : b = 9 := by omega
  subst this
  by_cases h : y = 9
  · omega
  · rw [nr_9 G h] at hn; cases hn
theorem RG_two (G : GW n N) : RG n N 0 (n - 1) := by
  have h1 := G.n1
  have h9 := G.n9
  exact ⟨Nat.zero_le _, by omega, fun b y h1 h2 hy hn => ⟨Nat.zero_le _, by have := nr_lt G (show b < n by omega) hn; omega⟩, fun b h1 h2 => Or.inl (by omega)⟩
theorem sp118o {x1 : Int32} (hd : 3 ≤ d) (hR : MR w n N) (G : GW n N) (h : ¬ x1 = 0) : ∃ f g, Ev d 118 (ent0 118 [.ref 27, .int x1] (hp E w)) (.inl none, hp E (tw f g w)) ∧ FL (tw f g w) n N 9 9 :=
  GO.map (fun o e => p118_e_a h h e) (fill_init (fb := 9) (lb := 9) hd hR G (RG_one G))
theorem sp118t (hd : 3 ≤ d) (hR : MR w n N) (G : GW n N) : ∃ f g, Ev d 118 (ent0 118 [.ref 27, .int 0] (hp E w)) (.inl none, hp E (tw f g w)) ∧ FL (tw f g w) n N 0 (n - 1) :=
  GO.map (fun o e => p118_e_d rfl rfl (show gF w 9 - 1 = I (n - 1) by rw [hR.1]; exact I_sub G.n1) e) (fill_init (fb := 0) (lb := n - 1) hd hR G (RG_two G))
end
