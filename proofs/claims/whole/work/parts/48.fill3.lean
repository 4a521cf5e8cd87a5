/-! THE CHASE, reference: filling. -/
section
theorem wsA {f g f' g' : Nat → Int32} {w : Wd} : sA 16 f' (sA 15 g' (sA 16 f (sA 15 g w))) = sA 16 f' (sA 15 g' w) := by
  rw [sA_comm (i := 15) (j := 16) (by decide), sA_sA, sA_sA]
theorem ws15 {f g g' : Nat → Int32} {w : Wd} : sA 15 g' (sA 16 f (sA 15 g w)) = sA 16 f (sA 15 g' w) := by
  rw [sA_comm (i := 15) (j := 16) (by decide), sA_sA]
/-- the tables in the world -/
def tw (f g : Nat → Int32) (w : Wd) : Wd := sA 16 f (sA 15 g w)
variable {E : Nat × (Nat → Int32)} {w : Wd} {d n fb lb : Nat} {N : Nat → Nat} {C R : Nat → Nat} {f g : Nat → Int32}
theorem tw_30 {i j : Nat} {u v : Int32} : sA 16 (upd (gA (sA 15 (upd (gA (tw f g w) 15) j v) (tw f g w)) 16) i u) (sA 15 (upd (gA (tw f g w) 15) j v) (tw f g w)) = tw (upd f i u) (upd g j v) w := wsA
theorem tw_16 {i : Nat} {u : Int32} : sA 16 (upd (gA (tw f g w) 16) i u) (tw f g w) = tw (upd f i u) g w := sA_sA _ _ _ _
theorem tw_15 {i : Nat} {u : Int32} : sA 15 (upd (gA (tw f g w) 15) i u) (tw f g w) = tw f (upd g i u) w := ws15
theorem AR_15 {i v : Nat} (hA : AR (tw f g w) C R) (hv : v ≤ 99) : AR (tw f (upd g i (I v)) w) (updN C i v) R := by
  intro j hj
  obtain ⟨a1, a2, a3, a4⟩ := hA j hj
  refine ⟨?_, a2, ?_, a4⟩
  · show upd g i (I v) j = _
    rw [upd_ap]
    unfold updN
    by_cases h : j = i
    · rw [if_pos h, if_pos h]
    · rw [if_neg h, if_neg h]; exact a1
  · unfold updN
    by_cases h : j = i
    · rw [if_pos h]; exact hv
    · rw [if_neg h]; exact a3
theorem AR_16 {i v : Nat} (hA : AR (tw f g w) C R) (hv : v ≤ 99) : AR (tw (upd f i (I v)) g w) C (updN R i v) := by
  intro j hj
  obtain ⟨a1, a2, a3, a4⟩ := hA j hj
  refine ⟨a1, ?_, a3, ?_⟩
  · show upd f i (I v) j = _
    rw [upd_ap]
    unfold updN
    by_cases h : j = i
    · rw [if_pos h, if_pos h]
    · rw [if_neg h, if_neg h]; exact a2
  · unfold updN
    by_cases h : j = i
    · rw [if_pos h]; exact hv
    · rw [if_neg h]; exact a4
theorem updN_self (F : Nat → Nat) (i v : Nat) : updN F i v i = v := by unfold updN; rw [if_pos rfl]
/-- the table filled -/
def FL (w : Wd) (n : Nat) (N : Nat → Nat) (fb lb : Nat) : Prop := ∀ a b r, a < n → fb ≤ b → b ≤ lb → r < n → gA w 15 (cl a b r) = I (tau n N a b r) ∧ gA w 16 (cl a b r) = I (rho n N a b r)
def GO (E : Nat × (Nat → Int32)) (w : Wd) (d n : Nat) (N : Nat → Nat) (fb lb : Nat) (c : Cf) : Prop := ∃ f g, Ev d 118 c (.inl none, hp E (tw f g w)) ∧ FL (tw f g w) n N fb lb
theorem GO.map {c c' : Cf} (h : ∀ o, Ev d 118 c o → Ev d 118 c' o) (k : GO E w d n N fb lb c) : GO E w d n N fb lb c' := by
  obtain ⟨f, g, e, hF⟩ := k
  exact ⟨f, g, h _ e, hF⟩
theorem SND_15 {a b r v : Nat} (hn : n ≤ 9) (hl : lb ≤ 9) (hS : SND n N fb lb C R) (ha : a < n) (h1 : fb ≤ b) (h2 : b ≤ lb) (hr : r < n) (hv : v < 99 → wc n N v a b r = true) : SND n N fb lb (updN C (cl a b r) v) R := by
  intro a' b' r' ha' h1' h2' hr'
  obtain ⟨s1, s2⟩ := hS a' b' r' ha' h1' h2' hr'
  refine ⟨?_, s2⟩
  by_cases h : cl a' b' r' = cl a b r
  · obtain ⟨rfl, rfl, rfl⟩ := cl_inj (by omega) (by omega) (by omega) (by omega) h
    rw [updN_self]; exact hv
  · rw [updN_ne h]; exact s1
theorem SND_16 {a b r v : Nat} (hn : n ≤ 9) (hl : lb ≤ 9) (hS : SND n N fb lb C R) (ha : a < n) (h1 : fb ≤ b) (h2 : b ≤ lb) (hr : r < n) (hv : v < 99 → rbB n N (wc n N v) a b r = true) : SND n N fb lb C (updN R (cl a b r) v) := by
  intro a' b' r' ha' h1' h2' hr'
  obtain ⟨s1, s2⟩ := hS a' b' r' ha' h1' h2' hr'
  refine ⟨s1, ?_⟩
  by_cases h : cl a' b' r' = cl a b r
  · obtain ⟨rfl, rfl, rfl⟩ := cl_inj (by omega) (by omega) (by omega) (by omega) h
    rw [updN_self]; exact hv
  · rw [updN_ne h]; exact s2
/-- the rounds of filling, from pc 160 -/
theorem fill_rounds {x1 : Int32} (hd : 3 ≤ d) (hR : MR w n N) (G : GW n N) (hg : RG n N fb lb) : ∀ (m : Nat) (C R : Nat → Nat) (gb : Bool), sm C 810 + sm R 810 ≤ m → SND n N fb lb C R → CGT n fb lb C R → (gb = false → FIX n N fb lb C R) → ∀ (f g : Nat → Int32) (u5 u6 u7 u8 u9 : Value), AR (tw f g w) C R →
    GO E w d n N fb lb (160, [.ref 27, .int x1, .int (I fb), .int (I lb), .int (bI gb), u5, u6, u7, u8, u9], [], hp E (tw f g w)) := by
  obtain ⟨hfl, hlb, hcl, hpl⟩ := hg
  have hn := G.n9
  have fin : ∀ (C R : Nat → Nat), SND n N fb lb C R → CGT n fb lb C R → FIX n N fb lb C R → ∀ (f g : Nat → Int32) (u5 u6 u7 u8 u9 : Value), AR (tw f g w) C R → GO E w d n N fb lb (160, [.ref 27, .int x1, .int (I fb), .int (I lb), .int (bI false), u5, u6, u7, u8, u9], [], hp E (tw f g w)) := by
    intro C R hS hC hF f g u5 u6 u7 u8 u9 hA
    refine ⟨f, g, p118_160_b rfl, fun a b r ha h1 h2 hr => ?_⟩
    obtain ⟨t1, t2⟩ := fix_tau ⟨hfl, hlb, hcl, hpl⟩ hS hC hF (fun i hi => (hA i hi).2.2) hn ha h1 h2 hr
    obtain ⟨a1, a2, _, _⟩ := hA _ (cl_lt (show a < 9 by omega) (show b ≤ 9 by omega) (show r < 9 by omega))
    rw [a1, a2, t1, t2]
    exact ⟨rfl, rfl⟩
  intro m
  induction m using Nat.strongRecOn with
  | ind m ih =>
  intro C R gb hM hS hC hF f g u5 u6 u7 u8 u9 hA
  cases gb with
  | false => exact fin C R hS hC (hF rfl) f g u5 u6 u7 u8 u9 hA
  | true =>
  refine GO.map (fun o e => p118_160_a (by decide) e) ?_
  clear hF
  -- what each pass keeps
  let St := (Nat → Nat) × (Nat → Nat) × Bool
  let Base : St → Prop := fun s => SND n N fb lb s.1 s.2.1 ∧ CGT n fb lb s.1 s.2.1 ∧ sm s.1 810 + sm s.2.1 810 ≤ m ∧ (s.2.2 = true → sm s.1 810 + sm s.2.1 810 < m)
  let c1 : St → Nat → Nat → Nat → Prop := fun s a b r => s.2.2 = false → fxR n N s.1 s.2.1 a b r
  let c2 : St → Nat → Nat → Nat → Prop := fun s a b r => s.2.2 = false → fxC n N s.1 s.2.1 a b r
  let Base2 : St → Prop := fun s => Base s ∧ ∀ a b r, a < n → fb ≤ b → b ≤ lb → r < n → c1 s a b r
  have after : ∀ s : St, Base2 s → (∀ a b r, a < n → fb ≤ b → b ≤ lb → r < n → c2 s a b r) → ∀ f g u5 u6 u7 u8 u9, AR (tw f g w) s.1 s.2.1 → GO E w d n N fb lb (160, [.ref 27, .int x1, .int (I fb), .int (I lb), .int (bI s.2.2), u5, u6, u7, u8, u9], [], hp E (tw f g w)) := by
    intro s ⟨⟨b1, b2, b3, b4⟩, h1⟩ h2 f g u5 u6 u7 u8 u9 hA
    obtain ⟨C, R, gb⟩ := s
    cases gb with
    | false => exact fin C R b1 b2 (fun a b r ha hb1 hb2 hr => ⟨h1 a b r ha hb1 hb2 hr rfl, h2 a b r ha hb1 hb2 hr rfl⟩) f g u5 u6 u7 u8 u9 hA
    | true => exact ih _ (b4 rfl) C R true (Nat.le_refl _) b1 b2 (fun z => by cases z) f g u5 u6 u7 u8 u9 hA
  have pass2 : ∀ s : St, Base2 s → ∀ f g u6 u7 u8 u9, AR (tw f g w) s.1 s.2.1 → GO E w d n N fb lb (283, [.ref 27, .int x1, .int (I fb), .int (I lb), .int (bI s.2.2), .int (I 0), u6, u7, u8, u9], [], hp E (tw f g w)) := by
    refine loop3 (fb := fb) (lb := lb) (n := n) (Base := Base2) (cond := c2)
      (K1 := fun s a => ∀ f g u6 u7 u8 u9, AR (tw f g w) s.1 s.2.1 → GO E w d n N fb lb (283, [.ref 27, .int x1, .int (I fb), .int (I lb), .int (bI s.2.2), .int (I a), u6, u7, u8, u9], [], hp E (tw f g w)))
      (K2 := fun s a b => ∀ f g u7 u8 u9, AR (tw f g w) s.1 s.2.1 → GO E w d n N fb lb (295, [.ref 27, .int x1, .int (I fb), .int (I lb), .int (bI s.2.2), .int (I a), .int (I b), u7, u8, u9], [], hp E (tw f g w)))
      (K3 := fun s a b r => ∀ f g u8 u9, AR (tw f g w) s.1 s.2.1 → GO E w d n N fb lb (304, [.ref 27, .int x1, .int (I fb), .int (I lb), .int (bI s.2.2), .int (I a), .int (I b), .int (I r), u8, u9], [], hp E (tw f g w)))
      hn hlb hfl ?_ ?_ ?_ ?_ ?_ ?_
    · intro s hB hc f g u6 u7 u8 u9 hA
      exact GO.map (fun o e => p118_283_b (nlt_n (x := gF (tw f g w) 9) hR.1 hn (Nat.le_refl _) (by omega)) e) (after s hB hc f g _ u6 u7 u8 u9 hA)
    · intro s a ha k f g u6 u7 u8 u9 hA
      exact GO.map (fun o e => p118_283_a (lt_n (x := gF (tw f g w) 9) hR.1 hn ha) e) (k f g u7 u8 u9 hA)
    · intro s a b ha hb1 hb2 k f g u7 u8 u9 hA
      exact GO.map (fun o e => p118_295_a (by rw [I_lt (by omega) (by omega)]; omega) e) (k f g u8 u9 hA)
    · intro s a ha k f g u7 u8 u9 hA
      exact GO.map (fun o e => p118_295_b ((I_lt (by omega) (by omega)).mpr (by omega)) (I_add a 1) e) (k f g _ u7 u8 u9 hA)
    · intro s a b r ha hb1 hb2 hr hB hc k f g u8 u9 hA
      obtain ⟨C, R, gb⟩ := s
      obtain ⟨⟨b1, b2, b3, b4⟩, b5⟩ := hB
      have hci := cl_lt (show a < 9 by omega) (show b ≤ 9 by omega) (show r < 9 by omega)
      obtain ⟨a1, a2, a3, a4⟩ := hA _ hci
      obtain ⟨v, e1, hv⟩ := sp117 (E := E) (w := tw f g w) (d := d - 1) (by omega) hR G hA ha (hpl b hb1 hb2) hr
      have hlt := lt_n (x := gF (tw f g w) 9) hR.1 hn hr
      have ev : I v + (1 : Int32) = I (v + 1) := I_add v 1
      have hv9 := hv.1
      by_cases h9 : v < 99
      · have d9 : I v < (99 : Int32) := show I v < I 99 from (I_lt (by omega) (by omega)).mpr h9
        by_cases hup : v + 1 < C (cl a b r)
        · have hw : wc n N (v + 1) a b r = true := by
            rcases hv.2.2 with h0 | ⟨x, y, hx, hy, n1, n2, h0⟩
            · omega
            · have hy2 := hcl b y hb1 hb2 hy n2
              refine wc_succ.mpr (Or.inr ⟨x, hx, n1, y, hy, n2, ?_⟩)
              have := (b1 x y r hx hy2.1 hy2.2 hr).2 (by omega)
              rw [← h0] at this
              exact this
          have hA' := AR_15 (i := cl a b r) (v := v + 1) hA (by omega)
          have hsm := sm_put (f := C) (k := cl a b r) (v := v + 1) hci
          refine GO.map (fun o e => p118_304_a (w' := tw f (upd g (cl a b r) (I (v + 1))) w) (by omega) hlt e1 d9 (I_cl a b r) hci (by rw [ev, a1]; exact (I_lt (by omega) (by omega)).mpr hup) (I_add r 1) (by rw [ev]; exact tw_15) e) ?_
          refine k (updN C (cl a b r) (v + 1), R, true) ⟨⟨SND_15 hn hlb b1 ha hb1 hb2 hr (fun _ => hw), ?_, ?_, ?_⟩, ?_⟩ ?_ ?_ _ _ _ _ hA'
          · intro a' b' r' h1 h2 h3 h4 h5
            have h6 := b2 a' b' r' h1 h2 h3 h4 h5
            refine ⟨?_, h6.2⟩
            have h7 : cl a' b' r' ≠ cl a b r := fun z => by
              have h8 : C (cl a' b' r') = 0 := h6.1
              rw [z] at h8
              omega
            show updN C (cl a b r) (v + 1) (cl a' b' r') = 0
            rw [updN_ne h7]; exact h6.1
          · show sm (updN C (cl a b r) (v + 1)) 810 + sm R 810 ≤ m
            have : sm C 810 + sm R 810 ≤ m := b3
            omega
          · intro _
            show sm (updN C (cl a b r) (v + 1)) 810 + sm R 810 < m
            have : sm C 810 + sm R 810 ≤ m := b3
            omega
          · intro a' b' r' _ _ _ _ z; cases z
          · intro a' b' r' _ _ _ _ _ z; cases z
          · intro z; cases z
        · refine GO.map (fun o e => p118_304_b (by omega) hlt e1 d9 (I_cl a b r) hci (by rw [ev, a1, I_lt (by omega) (by omega)]; exact hup) (I_add r 1) e) ?_
          exact k (C, R, gb) ⟨⟨b1, b2, b3, b4⟩, b5⟩ hc (fun _ => ⟨v, hv, fun z => hup z.2⟩) _ _ _ _ hA
      · refine GO.map (fun o e => p118_304_c (by omega) hlt e1 (by rw [show (99 : Int32) = I 99 from rfl, I_lt (by omega) (by omega)]; exact h9) (I_add r 1) e) ?_
        exact k (C, R, gb) ⟨⟨b1, b2, b3, b4⟩, b5⟩ hc (fun _ => ⟨v, hv, fun z => h9 z.1⟩) _ _ _ _ hA
    · intro s a b ha hb1 hb2 k f g u8 u9 hA
      exact GO.map (fun o e => p118_304_d (nlt_n (x := gF (tw f g w) 9) hR.1 hn (Nat.le_refl _) (by omega)) (I_add b 1) e) (k f g _ u8 u9 hA)
  have pass1 : ∀ s : St, Base s → ∀ f g u6 u7 u8 u9, AR (tw f g w) s.1 s.2.1 → GO E w d n N fb lb (171, [.ref 27, .int x1, .int (I fb), .int (I lb), .int (bI s.2.2), .int (I 0), u6, u7, u8, u9], [], hp E (tw f g w)) := by
    refine loop3 (fb := fb) (lb := lb) (n := n) (Base := Base) (cond := c1)
      (K1 := fun s a => ∀ f g u6 u7 u8 u9, AR (tw f g w) s.1 s.2.1 → GO E w d n N fb lb (171, [.ref 27, .int x1, .int (I fb), .int (I lb), .int (bI s.2.2), .int (I a), u6, u7, u8, u9], [], hp E (tw f g w)))
      (K2 := fun s a b => ∀ f g u7 u8 u9, AR (tw f g w) s.1 s.2.1 → GO E w d n N fb lb (183, [.ref 27, .int x1, .int (I fb), .int (I lb), .int (bI s.2.2), .int (I a), .int (I b), u7, u8, u9], [], hp E (tw f g w)))
      (K3 := fun s a b r => ∀ f g u8 u9, AR (tw f g w) s.1 s.2.1 → GO E w d n N fb lb (192, [.ref 27, .int x1, .int (I fb), .int (I lb), .int (bI s.2.2), .int (I a), .int (I b), .int (I r), u8, u9], [], hp E (tw f g w)))
      hn hlb hfl ?_ ?_ ?_ ?_ ?_ ?_
    · intro s hB hc f g u6 u7 u8 u9 hA
      exact GO.map (fun o e => p118_171_b (nlt_n (x := gF (tw f g w) 9) hR.1 hn (Nat.le_refl _) (by omega)) e) (pass2 s ⟨hB, hc⟩ f g u6 u7 u8 u9 hA)
    · intro s a ha k f g u6 u7 u8 u9 hA
      exact GO.map (fun o e => p118_171_a (lt_n (x := gF (tw f g w) 9) hR.1 hn ha) e) (k f g u7 u8 u9 hA)
    · intro s a b ha hb1 hb2 k f g u7 u8 u9 hA
      exact GO.map (fun o e => p118_183_a (by rw [I_lt (by omega) (by omega)]; omega) e) (k f g u8 u9 hA)
    · intro s a ha k f g u7 u8 u9 hA
      exact GO.map (fun o e => p118_183_b ((I_lt (by omega) (by omega)).mpr (by omega)) (I_add a 1) e) (k f g _ u7 u8 u9 hA)
    · intro s a b r ha hb1 hb2 hr hB hc k f g u8 u9 hA
      obtain ⟨C, R, gb⟩ := s
      obtain ⟨b1, b2, b3, b4⟩ := hB
      have hci := cl_lt (show a < 9 by omega) (show b ≤ 9 by omega) (show r < 9 by omega)
      obtain ⟨a1, a2, a3, a4⟩ := hA _ hci
      have hlt := lt_n (x := gF (tw f g w) 9) hR.1 hn hr
      by_cases h0 : R (cl a b r) = 0
      · have d0 : gA (tw f g w) 16 (cl a b r) = 0 := by rw [a2]; show I (R (cl a b r)) = 0; rw [h0]; rfl
        refine GO.map (fun o e => p118_192_b (by omega) hlt (I_cl a b r) hci d0 (by rw [d0]; decide) (I_add r 1) e) ?_
        exact k (C, R, gb) ⟨b1, b2, b3, b4⟩ hc (fun _ => Or.inl h0) _ _ _ _ hA
      · have d0 : ¬ gA (tw f g w) 16 (cl a b r) = 0 := by
          rw [a2]
          intro z
          have a4' : R (cl a b r) ≤ 99 := a4
          exact h0 ((I_inj (b := 0) (by omega) (by decide)).mp z)
        obtain ⟨v, e1, hv⟩ := sp116 (E := E) (w := tw f g w) (d := d - 1) (by omega) hR G hA ha (show b ≤ 9 by omega) hr
        have hv9 := hv.1
        by_cases hup : v < R (cl a b r)
        · have hw : v < 99 → rbB n N (wc n N v) a b r = true := fun h9 => rb_iff.mpr (Or.inr (fun x hx hnx => by
            have h1 := hv.2.1 x hx hnx
            exact wc_le h1 ((b1 a b x ha hb1 hb2 hx).1 (by omega))))
          have hA' := AR_16 (i := cl a b r) (v := v) hA hv9
          have hsm := sm_put (f := R) (k := cl a b r) (v := v) hci
          refine GO.map (fun o e => p118_192_c (w' := tw (upd f (cl a b r) (I v)) g w) (by omega) hlt (I_cl a b r) hci d0 e1 (by rw [a2]; exact (I_lt (by omega) (by omega)).mpr hup) (I_add r 1) tw_16 e) ?_
          refine k (C, updN R (cl a b r) v, true) ⟨SND_16 hn hlb b1 ha hb1 hb2 hr hw, ?_, ?_, ?_⟩ ?_ ?_ _ _ _ _ hA'
          · intro a' b' r' h1 h2 h3 h4 h5
            have h6 := b2 a' b' r' h1 h2 h3 h4 h5
            refine ⟨h6.1, ?_⟩
            have h7 : cl a' b' r' ≠ cl a b r := fun z => by
              have := h6.2
              rw [z] at this
              exact h0 this
            show updN R (cl a b r) v (cl a' b' r') = 0
            rw [updN_ne h7]; exact h6.2
          · show sm C 810 + sm (updN R (cl a b r) v) 810 ≤ m
            have : sm C 810 + sm R 810 ≤ m := b3
            omega
          · intro _
            show sm C 810 + sm (updN R (cl a b r) v) 810 < m
            have : sm C 810 + sm R 810 ≤ m := b3
            omega
          · intro a' b' r' _ _ _ _ _ z; cases z
          · intro z; cases z
        · refine GO.map (fun o e => p118_192_d (by omega) hlt (I_cl a b r) hci d0 e1 (by rw [a2, I_lt (by omega) (by omega)]; exact hup) (I_add r 1) e) ?_
          exact k (C, R, gb) ⟨b1, b2, b3, b4⟩ hc (fun _ => Or.inr ⟨v, hv, by show R (cl a b r) ≤ v; omega⟩) _ _ _ _ hA
    · intro s a b ha hb1 hb2 k f g u8 u9 hA
      exact GO.map (fun o e => p118_192_e (nlt_n (x := gF (tw f g w) 9) hR.1 hn (Nat.le_refl _) (by omega)) (I_add b 1) e) (k f g _ u8 u9 hA)
  exact pass1 (C, R, false) ⟨hS, hC, hM, fun z => by cases z⟩ f g u6 u7 u8 u9 hA
end
