/-! THE HUNT, reference: breadth first. -/
section
variable {E : Nat × (Nat → Int32)} {w : Wd} {d n : Nat} {N : Nat → Nat}
def updN (f : Nat → Nat) (k v : Nat) : Nat → Nat := fun i => if i = k then v else f i
theorem updN_same (f : Nat → Nat) (k v : Nat) : updN f k v k = v := by simp [updN]
theorem updN_ne {f : Nat → Nat} {k v i : Nat} (h : i ≠ k) : updN f k v i = f i := by simp [updN, h]
theorem sA_comm {i j : Nat} (hij : i ≠ j) (f g : Nat → Int32) (w : Wd) : sA i f (sA j g w) = sA j g (sA i f w) := by
  unfold sA
  congr 1
  funext k
  show (bif Nat.beq k i then f else (bif Nat.beq k j then g else w.1 k)) = (bif Nat.beq k j then g else (bif Nat.beq k i then f else w.1 k))
  cases h1 : Nat.beq k i with
  | false => rfl
  | true =>
    cases h2 : Nat.beq k j with
    | false => rfl
    | true => exact absurd ((Nat.eq_of_beq_eq_true h1).symm.trans (Nat.eq_of_beq_eq_true h2)) hij
theorem sm_upd {f g : Nat → Nat} {k : Nat} : ∀ {n : Nat}, k < n → g k = f k + 1 → (∀ i, i ≠ k → g i = f i) → sm g n = sm f n + 1
  | 0, h, _, _ => by omega
  | n + 1, h, h1, h2 => by
    show sm g n + g n = sm f n + f n + 1
    by_cases e : k = n
    · subst e
      have : ∀ m, m ≤ k → sm g m = sm f m := by
        intro m
        induction m with
        | zero => intro _; rfl
        | succ m ih =>
          intro hm
          show sm g m + g m = sm f m + f m
          rw [ih (by omega), h2 m (by omega)]
      rw [this k (Nat.le_refl _), h1]
      omega
    · rw [sm_upd (n := n) (by omega) h1 h2, h2 n (fun z => e z.symm)]
      omega
def cn (F : Nat → Nat) : Nat := sm (fun t => (decide (F t ≠ 999)).toNat) 512
theorem cn_upd {F : Nat → Nat} {t v : Nat} (ht : t < 512) (h : F t = 999) (hv : v ≠ 999) : cn (updN F t v) = cn F + 1 := by
  unfold cn
  refine sm_upd ht ?_ (fun i hi => by rw [updN_ne hi])
  rw [updN_same, h, decide_eq_true hv]
  rfl
theorem cn_lt {F : Nat → Nat} {t : Nat} (ht : t < 512) (h : F t = 999) : cn F < 512 := by
  have h1 := cn_upd (v := 0) ht h (by decide)
  have h2 := sm_bool (fun i => decide (updN F t 0 i ≠ 999)) 512
  have h3 : cn (updN F t 0) ≤ 512 := h2
  omega
/-- the search as it stands -/
def BI (n : Nat) (N : Nat → Nat) (s : Nat) (q F : Nat → Nat) (e kk room : Nat) : Prop :=
  (∀ i, i < e → q i < 2 ^ n ∧ F (q i) ≤ i) ∧ (∀ t, t < 2 ^ n → F t ≠ 999 → ∃ i, i < e ∧ q i = t) ∧ (∀ i j, i ≤ j → j < e → F (q i) ≤ F (q j)) ∧ (kk < e → ∀ j, j < e → F (q j) ≤ F (q kk) + 1) ∧ (∀ t, t < 2 ^ n → F t ≠ 999 → ∀ m, hq n N m t = true → hq n N (m + F t) s = true) ∧
  (∀ i, i < kk → ∀ r, r < n → F (bh n N (q i) r) ≠ 999 ∧ F (bh n N (q i) r) ≤ F (q i) + 1) ∧ (kk < e → ∀ r, r < room → F (bh n N (q kk) r) ≠ 999 ∧ F (bh n N (q kk) r) ≤ F (q kk) + 1) ∧ F s = 0 ∧ cn F = e ∧ e ≤ 512 ∧ kk ≤ e
theorem BI_old (G : GW n N) {s e kk room : Nat} {q F : Nat → Nat} (B : BI n N s q F e kk room) (hk : kk < e) (h : F (bh n N (q kk) room) ≠ 999) : BI n N s q F e kk (room + 1) := by
  obtain ⟨b1, b2, b3, b4, b5, b6, b7, b8⟩ := B
  refine ⟨b1, b2, b3, b4, b5, b6, fun hke r hr => ?_, b8⟩
  by_cases e1 : r = room
  · subst e1
    obtain ⟨j, hj, hq⟩ := b2 _ (bh_lt G _ _) h
    exact ⟨h, by rw [← hq]; exact b4 hk j hj⟩
  · exact b7 hke r (by omega)
theorem BI_new (G : GW n N) {s e kk room : Nat} {q F : Nat → Nat} (hr : room < n) (B : BI n N s q F e kk room) (hk : kk < e) (h : F (bh n N (q kk) room) = 999) : e < 512 ∧ BI n N s (updN q e (bh n N (q kk) room)) (updN F (bh n N (q kk) room) (F (q kk) + 1)) (e + 1) kk (room + 1) := by
  obtain ⟨b1, b2, b3, b4, b5, b6, b7, b8, b9, b10, b11⟩ := B
  have h512 := two_pow_le G.n9
  have hto := bh_lt G (q kk) room
  have he : e < 512 := by rw [← b9]; exact cn_lt (Nat.lt_of_lt_of_le hto h512) h
  have hkq := b1 kk hk
  have hv : F (q kk) + 1 ≠ 999 := by omega
  have hold : ∀ i, i < e → q i ≠ bh n N (q kk) room := fun i hi z => by
    have := (b1 i hi).2
    rw [z, h] at this
    omega
  have hF : ∀ i, i < e → updN F (bh n N (q kk) room) (F (q kk) + 1) (updN q e (bh n N (q kk) room) i) = F (q i) := fun i hi => by
    rw [updN_ne (show i ≠ e by omega), updN_ne (hold i hi)]
  have hFe : updN F (bh n N (q kk) room) (F (q kk) + 1) (updN q e (bh n N (q kk) room) e) = F (q kk) + 1 := by rw [updN_same, updN_same]
  have hup : ∀ t b, F t ≠ 999 ∧ F t ≤ b → updN F (bh n N (q kk) room) (F (q kk) + 1) t ≠ 999 ∧ updN F (bh n N (q kk) room) (F (q kk) + 1) t ≤ b := fun t b ⟨h1, h2⟩ => by
    have hne : t ≠ bh n N (q kk) room := fun z => h1 (by rw [z]; exact h)
    rw [updN_ne hne]
    exact ⟨h1, h2⟩
  refine ⟨he, fun i hi => ?_, fun t ht h1 => ?_, fun i j hij hj => ?_, fun hke j hj => ?_, fun t ht h1 m hm => ?_, fun i hi r hr2 => ?_, fun hke r hr2 => ?_, ?_, ?_, by omega, by omega⟩
  · by_cases e1 : i = e
    · rw [e1, hFe, updN_same]
      exact ⟨hto, by omega⟩
    · rw [hF i (by omega), updN_ne e1]
      exact b1 i (by omega)
  · by_cases e1 : t = bh n N (q kk) room
    · exact ⟨e, by omega, by rw [updN_same]; exact e1.symm⟩
    · rw [updN_ne e1] at h1
      obtain ⟨i, hi, hq⟩ := b2 t ht h1
      exact ⟨i, by omega, by rw [updN_ne (show i ≠ e by omega)]; exact hq⟩
  · by_cases e1 : j = e
    · by_cases e2 : i = e
      · rw [e1, e2]; exact Nat.le_refl _
      · rw [e1, hFe, hF i (by omega)]
        exact b4 hk i (by omega)
    · rw [hF i (by omega), hF j (by omega)]
      exact b3 i j hij (by omega)
  · rw [hF kk hk]
    by_cases e1 : j = e
    · rw [e1, hFe]; exact Nat.le_refl _
    · rw [hF j (by omega)]
      exact b4 hk j (by omega)
  · by_cases e1 : t = bh n N (q kk) room
    · rw [e1, updN_same]
      rw [e1] at hm
      have h2 : hq n N (m + 1) (q kk) = true := hq_succ_iff.mpr (Or.inr ⟨room, hr, hm⟩)
      have h3 := b5 (q kk) hkq.1 (by omega) (m + 1) h2
      rw [show m + (F (q kk) + 1) = m + 1 + F (q kk) by omega]
      exact h3
    · rw [updN_ne e1] at h1 ⊢
      exact b5 t ht h1 m hm
  · rw [hF i (by omega), updN_ne (show i ≠ e by omega)]
    exact hup _ _ (b6 i hi r hr2)
  · rw [hF kk hk, updN_ne (show kk ≠ e by omega)]
    by_cases e1 : r = room
    · subst e1
      rw [updN_same]
      exact ⟨hv, Nat.le_refl _⟩
    · exact hup _ _ (b7 hk r (by omega))
  · rw [updN_ne (fun z => by rw [z, h] at b8; cases b8)]
    exact b8
  · rw [cn_upd (Nat.lt_of_lt_of_le hto h512) h hv, b9]
theorem BI_next {s e kk : Nat} {q F : Nat → Nat} (B : BI n N s q F e kk n) (hk : kk < e) : BI n N s q F e (kk + 1) 0 := by
  obtain ⟨b1, b2, b3, b4, b5, b6, b7, b8, b9, b10, b11⟩ := B
  refine ⟨b1, b2, b3, fun hke j hj => ?_, b5, fun i hi r hr => ?_, fun _ r hr => by omega, b8, b9, b10, by omega⟩
  · have h1 := b4 hk j hj
    have h2 := b3 kk (kk + 1) (by omega) hke
    omega
  · by_cases e1 : i = kk
    · subst e1; exact b7 hk r hr
    · exact b6 i (by omega) r hr
/-- what the reference's search says: 999 where there is none -/
def sv (n : Nat) (N : Nat → Nat) (s : Nat) : Int32 := if Hn n N s < 512 then I (Hn n N s) else 999
theorem BI_end (G : GW n N) {s e : Nat} {q F : Nat → Nat} (hs : s < 2 ^ n) (B : BI n N s q F e e 0) : I (F 0) = sv n N s := by
  obtain ⟨b1, b2, b3, b4, b5, b6, b7, b8, b9, b10, b11⟩ := B
  have h1p := Nat.one_le_two_pow (n := n)
  have low : ∀ m t, t < 2 ^ n → F t ≠ 999 → hq n N m t = true → F 0 ≠ 999 ∧ F 0 ≤ F t + m := by
    intro m
    induction m with
    | zero =>
      intro t ht h1 h2
      have : t = 0 := of_decide_eq_true h2
      subst this
      exact ⟨h1, Nat.le_refl _⟩
    | succ m ih =>
      intro t ht h1 h2
      rcases hq_succ_iff.mp h2 with h3 | ⟨r, hr, h3⟩
      · subst h3; exact ⟨h1, by omega⟩
      · obtain ⟨i, hi, hqi⟩ := b2 t ht h1
        have h4 := b6 i hi r hr
        rw [hqi] at h4
        have h5 := ih _ (bh_lt G t r) h4.1 h3
        exact ⟨h5.1, by omega⟩
  unfold sv
  by_cases h0 : F 0 = 999
  · have hn : ¬ Hn n N s < 512 := fun z => by
      have := low _ s hs (by rw [b8]; decide) (Hn_yes z)
      exact this.1 h0
    rw [if_neg hn, h0]
    rfl
  · have h1 := b5 0 (by omega) h0 0 rfl
    rw [Nat.zero_add] at h1
    have h2 := low _ s hs (by rw [b8]; decide) (hq_bound G hs h1)
    have h3 : Hn n N s = F 0 := Hn_eq (by omega) h1 (fun i hi => by
      cases h4 : hq n N i s with
      | false => rfl
      | true =>
        have := low i s hs (by rw [b8]; decide) h4
        omega)
    rw [if_pos (by omega), h3]
/-- the arrays hold it -/
def BW (f g : Nat → Int32) (q F : Nat → Nat) (e : Nat) : Prop := (∀ i, i < 512 → f i = I (F i)) ∧ ∀ i, i < e → g i = I (q i)
theorem sp128in (hd : 1 ≤ d) (hR : MR w n N) (G : GW n N) {s kk : Nat} (hkk : kk < 512)
    (K : ∀ (q F : Nat → Nat) (e : Nat) (f g : Nat → Int32) (u v : Value), BI n N s q F e (kk + 1) 0 → BW f g q F e → ∃ f' g', Ev d 128 (42, [.ref 27, .int (I s), .int (I e), .int (I (kk + 1)), u, v], [], hp E (sA 18 f (sA 17 g w))) (.inl (some (.int (sv n N s))), hp E (sA 18 f' (sA 17 g' w)))) :
    ∀ (R room : Nat) (q F : Nat → Nat) (e : Nat) (f g : Nat → Int32) (u : Value), room + R = n → kk < e → BI n N s q F e kk room → BW f g q F e → ∃ f' g', Ev d 128 (50, [.ref 27, .int (I s), .int (I e), .int (I kk), .int (I room), u], [], hp E (sA 18 f (sA 17 g w))) (.inl (some (.int (sv n N s))), hp E (sA 18 f' (sA 17 g' w)))
  | 0, room, q, F, e, f, g, u, hroom, hke, B, W => by
    have : room = n := by omega
    subst this
    obtain ⟨f', g', h⟩ := K q F e f g (.int (I room)) u (BI_next B hke) W
    exact ⟨f', g', p128_50_c (nlt_n hR.1 G.n9 (Nat.le_refl _) (by have := G.n9; omega)) (I_add kk 1) h⟩
  | R + 1, room, q, F, e, f, g, u, hroom, hke, B, W => by
    have hn := G.n9
    have h512 := two_pow_le hn
    have hrn : room < n := by omega
    have hqk := B.1 kk hke
    have he := B.2.2.2.2.2.2.2.2.2.1
    have hto := bh_lt G (q kk) room
    have hF : f (bh n N (q kk) room) = I (F (bh n N (q kk) room)) := W.1 _ (by omega)
    have hb : ∀ t, t < 2 ^ n → F t < 1000 := fun t ht => by
      by_cases h1 : F t = 999
      · omega
      · obtain ⟨i, hi, hq⟩ := B.2.1 t ht h1
        have := (B.1 i hi).2
        rw [hq] at this
        omega
    have hR' : MR (sA 18 f (sA 17 g w)) n N := hR
    have h1 := sp108 (E := E) (d := d - 1) hR' G (s := q kk) (r := room) (by omega) (by omega)
    by_cases hc : F (bh n N (q kk) room) = 999
    · obtain ⟨he2, B2⟩ := BI_new G hrn B hke hc
      have W2 : BW (upd f (bh n N (q kk) room) (f (q kk) + 1)) (upd g e (I (bh n N (q kk) room))) (updN q e (bh n N (q kk) room)) (updN F (bh n N (q kk) room) (F (q kk) + 1)) (e + 1) := by
        refine ⟨fun i hi => ?_, fun i hi => ?_⟩
        · rw [upd_ap]
          by_cases e1 : i = bh n N (q kk) room
          · rw [if_pos e1, e1, updN_same, W.1 _ (by omega)]
            exact I_add _ 1
          · rw [if_neg e1, updN_ne e1]; exact W.1 i hi
        · rw [upd_ap]
          by_cases e1 : i = e
          · rw [if_pos e1, e1, updN_same]
          · rw [if_neg e1, updN_ne e1]; exact W.2 i (by omega)
      obtain ⟨f', g', h⟩ := sp128in hd hR G hkk K R (room + 1) _ _ (e + 1) _ _ (.int (I (bh n N (q kk) room))) (by omega) (by omega) B2 W2
      refine ⟨f', g', p128_50_a hd (lt_n hR.1 hn hrn) rfl hkk (W.2 kk hke) h1 rfl (show bh n N (q kk) room < 512 by omega) ?_ (W.2 kk hke) (by omega) rfl he2 (I_add e 1) rfl (I_add room 1) ?_ h⟩
      · show f (bh n N (q kk) room) = 999
        rw [hF, hc]; rfl
      · show sA 17 (upd g e (I (bh n N (q kk) room))) (sA 18 (upd f (bh n N (q kk) room) (f (q kk) + 1)) (sA 18 f (sA 17 g w))) = _
        rw [sA_sA, sA_comm (by decide), sA_sA]
    · have hc' : ¬ f (bh n N (q kk) room) = (999 : Int32) := fun z => by
        rw [hF] at z
        exact hc ((I_inj (by have := hb _ hto; omega) (by omega)).mp (show I _ = I 999 from z))
      obtain ⟨f', g', h⟩ := sp128in hd hR G hkk K R (room + 1) q F e f g (.int (I (bh n N (q kk) room))) (by omega) hke (BI_old G B hke hc) W
      exact ⟨f', g', p128_50_b hd (lt_n hR.1 hn hrn) rfl hkk (W.2 kk hke) h1 rfl (show bh n N (q kk) room < 512 by omega) hc' rfl (I_add room 1) h⟩
theorem sp128out (hd : 1 ≤ d) (hR : MR w n N) (G : GW n N) {s : Nat} (hs : s < 2 ^ n) : ∀ (M kk : Nat), kk + M = 512 → ∀ (q F : Nat → Nat) (e : Nat) (f g : Nat → Int32) (u v : Value), BI n N s q F e kk 0 → BW f g q F e → ∃ f' g', Ev d 128 (42, [.ref 27, .int (I s), .int (I e), .int (I kk), u, v], [], hp E (sA 18 f (sA 17 g w))) (.inl (some (.int (sv n N s))), hp E (sA 18 f' (sA 17 g' w)))
  | M, kk, hM, q, F, e, f, g, u, v, B, W => by
    have he := B.2.2.2.2.2.2.2.2.2.1
    have hke := B.2.2.2.2.2.2.2.2.2.2
    by_cases h : kk < e
    · cases M with
      | zero => omega
      | succ M =>
        have K := sp128out hd hR G hs M (kk + 1) (by omega)
        obtain ⟨f', g', h1⟩ := sp128in (E := E) hd hR G (s := s) (kk := kk) (by omega) K n 0 q F e f g v (by omega) h B W
        exact ⟨f', g', p128_42_a ((I_lt (by omega) (by omega)).mpr h) h1⟩
    · have : kk = e := by omega
      subst this
      refine ⟨f, g, p128_42_b (j1 := 0) (fun z => h ((I_lt (by omega) (by omega)).mp z)) rfl (by decide) ?_⟩
      show f 0 = _
      rw [W.1 0 (by decide), BI_end G hs B]
theorem sp128 (hd : 1 ≤ d) (hR : MR w n N) (G : GW n N) {s : Nat} (hs : s < 2 ^ n) : ∃ f g, Ev d 128 (ent0 128 [.ref 27, .int (I s)] (hp E w)) (.inl (some (.int (sv n N s))), hp E (sA 18 f (sA 17 g w))) := by
  have h512 := two_pow_le G.n9
  have B0 : BI n N s (fun _ => s) (updN (fun _ => 999) s 0) 1 0 0 := by
    refine ⟨fun i hi => ⟨hs, by rw [updN_same]; omega⟩, fun t ht h => ⟨0, by decide, ?_⟩, fun i j _ _ => Nat.le_refl _, fun _ j _ => Nat.le_succ _, fun t ht h m hm => ?_, fun i hi => by omega, fun _ r hr => by omega, updN_same _ _ _, ?_, by decide, by decide⟩
    · by_cases e : t = s
      · exact e.symm
      · rw [updN_ne e] at h; exact absurd rfl h
    · by_cases e : t = s
      · subst e; rw [updN_same]; exact hm
      · rw [updN_ne e] at h; exact absurd rfl h
    · rw [cn_upd (by omega) rfl (by decide)]
      have : cn (fun _ => 999) = 0 := sm_zero 512
      rw [this]
  have W0 : BW (upd (ra 512 (gA w 18) 999) s (I 0)) (upd (gA w 17) 0 (I s)) (fun _ => s) (updN (fun _ => 999) s 0) 1 := by
    refine ⟨fun i hi => ?_, fun i hi => ?_⟩
    · rw [upd_ap]
      by_cases e : i = s
      · rw [if_pos e, e, updN_same]
      · rw [if_neg e, updN_ne e]
        unfold ra
        rw [if_pos hi]; rfl
    · have : i = 0 := by omega
      subst this
      rw [upd_ap, if_pos rfl]
  obtain ⟨f', g', h⟩ := sp128out (E := E) hd hR G hs 512 0 rfl _ _ 1 _ _ jk jk B0 W0
  refine ⟨f', g', ?_⟩
  have key := down (n := 512) (Q := fun j => Ev d 128 (2, [.ref 27, .int (I s), .int (I j), jk, jk, jk], [], hp E (sA 18 (ra j (gA w 18) 999) w)) (.inl (some (.int (sv n N s))), hp E (sA 18 f' (sA 17 g' w)))) (fun j hj e => ?_) ?_ 0 (by decide)
  · refine p128_e_a ?_
    rw [ra_zero, sA_self] at key
    exact key
  · refine p128_2_a ((I_lt (by omega) (by decide)).mpr hj) rfl hj (I_add j 1) ?_ e
    show sA 18 (upd (ra j (gA w 18) 999) j 999) (sA 18 (ra j (gA w 18) 999) w) = _
    rw [sA_sA, ra_upd]
  · refine p128_2_b (j2 := 0) (fun z => Nat.lt_irrefl 512 ((I_lt (by decide) (by decide)).mp z)) rfl (by omega) rfl (by decide) rfl ?_ h
    show sA 17 (upd (gA w 17) 0 (I s)) (sA 18 (upd (ra 512 (gA w 18) 999) s (I 0)) (sA 18 (ra 512 (gA w 18) 999) w)) = _
    rw [sA_sA, sA_comm (by decide)]
/-- THE REFERENCE'S ANSWERS -/
theorem sv_hv {s : Nat} : (if sv n N s = (999 : Int32) then (-1 : Int32) else sv n N s) = hv n N s := by
  unfold sv hv
  by_cases h : Hn n N s < 512
  · rw [if_pos h, if_pos h, if_neg (fun z => by have := (I_inj (b := 999) (by omega) (by decide)).mp z; omega)]
  · rw [if_neg h, if_neg h, if_pos rfl]
theorem sp129 {s : Nat} (hd : 2 ≤ d) (hR : MR w n N) (G : GW n N) (hS : gF w 10 = I s) (hs : s < 2 ^ n) : ∃ f g, Ev d 129 (ent0 129 [.ref 27] (hp E w)) (.inl (some (.int (hv n N s))), hp E (sA 18 f (sA 17 g (sF 8 0 w)))) := by
  obtain ⟨f, g, h⟩ := sp128 (E := E) (w := sF 8 0 w) (d := d - 1) (by omega) hR G hs
  refine ⟨f, g, ?_⟩
  rw [← sv_hv]
  by_cases hc : sv n N s = (999 : Int32)
  · rw [if_pos hc]
    exact p129_e_a (by omega) hS h hc
  · rw [if_neg hc]
    exact p129_e_b (by omega) hS h hc
theorem sp130 {s most : Nat} (hd : 2 ≤ d) (hR : MR w n N) (G : GW n N) (hS : gF w 10 = I s) (hs : s < 2 ^ n) (hm : most ≤ 4) : ∃ f g, Ev d 130 (ent0 130 [.ref 27, .int (I most)] (hp E w)) (.inl (some (.int (hma n N most s))), hp E (sA 18 f (sA 17 g (sF 8 0 w)))) := by
  obtain ⟨f, g, h⟩ := sp128 (E := E) (w := sF 8 0 w) (d := d - 1) (by omega) hR G hs
  refine ⟨f, g, ?_⟩
  have c1 : ¬ I most < 0 := I_nneg (by omega)
  have c2 : ¬ (4 : Int32) < I most := fun z => by have := (I_lt (a := 4) (by omega) (by omega)).mp z; omega
  have hsv : I most < sv n N s ↔ ¬ Hn n N s ≤ most := by
    unfold sv
    by_cases h1 : Hn n N s < 512
    · rw [if_pos h1, I_lt (by omega) (by omega)]; omega
    · rw [if_neg h1, show (999 : Int32) = I 999 from rfl, I_lt (by omega) (by omega)]
      omega
  unfold hma
  by_cases h1 : Hn n N s ≤ most
  · rw [if_pos h1]
    have h2 : sv n N s = I (Hn n N s) := by unfold sv; rw [if_pos (by omega)]
    rw [← h2]
    exact p130_e_c (by omega) c1 c2 hS h (fun z => hsv.mp z h1)
  · rw [if_neg h1]
    exact p130_e_b (by omega) c1 c2 hS h (hsv.mpr h1)
theorem sp131 {s : Nat} (hd : 2 ≤ d) (hR : MR w n N) (G : GW n N) (hS : gF w 10 = I s) (hs : s < 2 ^ n) : ∃ f g, Ev d 131 (ent0 131 [.ref 27] (hp E w)) (.inl (some (.int (aimV n N s))), hp E (sA 18 f (sA 17 g (sF 8 0 w)))) := by
  have hn := G.n9
  have h512 := two_pow_le hn
  have hle := Hn_le (n := n) (N := N) s
  obtain ⟨f0, g0, h0⟩ := sp128 (E := E) (w := sF 8 0 w) (d := d - 1) (by omega) hR G hs
  unfold aimV
  by_cases h1 : Hn n N s = 0
  · refine ⟨f0, g0, ?_⟩
    rw [if_pos (Or.inl h1)]
    have h2 : sv n N s = 0 := by unfold sv; rw [h1]; rfl
    exact p131_e_c (by omega) hS h0 h2
  · by_cases h2 : Hn n N s = 512
    · refine ⟨f0, g0, ?_⟩
      rw [if_pos (Or.inr (Or.inl h2))]
      have h3 : sv n N s = 999 := by unfold sv; rw [h2]; rfl
      exact p131_e_a (by omega) hS h0 (by rw [h3]; decide) h3
    · have hsv : sv n N s = I (Hn n N s) := by unfold sv; rw [if_pos (by omega)]
      have hsub : I (Hn n N s) - (1 : Int32) = I (Hn n N s - 1) := by rw [show (1 : Int32) = I 1 from rfl, I_sub (by omega)]
      have key : ∀ m j (f g : Nat → Int32), j + m = n → ∃ f' g', Ev d 131 (29, [.ref 27, .int (I (Hn n N s)), .int (I j)], [], hp E (sA 18 f (sA 17 g (sF 8 0 w)))) (.inl (some (.int (if ff (fun r => decide (Hn n N (bh n N s r) = Hn n N s - 1)) m j = n then -1 else I (ff (fun r => decide (Hn n N (bh n N s r) = Hn n N s - 1)) m j)))), hp E (sA 18 f' (sA 17 g' (sF 8 0 w)))) := by
        intro m
        induction m with
        | zero =>
          intro j f g hj
          have : j = n := by omega
          subst this
          refine ⟨f, g, ?_⟩
          unfold ff
          rw [if_pos rfl]
          exact p131_29_c (nlt_n hR.1 hn (Nat.le_refl _) (by omega))
        | succ m ih =>
          intro j f g hj
          have hjn : j < n := by omega
          have hb := bh_lt G s j
          have hR' : MR (sA 18 f (sA 17 g (sF 8 0 w))) n N := hR
          obtain ⟨f1, g1, e1⟩ := sp128 (E := E) (w := sA 18 f (sA 17 g (sF 8 0 w))) (d := d - 1) (by omega) hR' G hb
          have ew : sA 18 f1 (sA 17 g1 (sA 18 f (sA 17 g (sF 8 0 w)))) = sA 18 f1 (sA 17 g1 (sF 8 0 w)) := by
            rw [sA_comm (i := 17) (by decide), sA_sA, sA_sA]
          rw [ew] at e1
          have htest : sv n N (bh n N s j) = I (Hn n N s) - (1 : Int32) ↔ Hn n N (bh n N s j) = Hn n N s - 1 := by
            rw [hsub]
            unfold sv
            by_cases h4 : Hn n N (bh n N s j) < 512
            · rw [if_pos h4, I_inj (by omega) (by omega)]
            · rw [if_neg h4, show (999 : Int32) = I 999 from rfl, I_inj (by omega) (by omega)]
              omega
          by_cases hc : Hn n N (bh n N s j) = Hn n N s - 1
          · rw [ff_T (decide_eq_true hc), if_neg (by omega)]
            exact ⟨f1, g1, p131_29_a (by omega) (lt_n hR.1 hn hjn) hS (sp108 (s := s) (r := j) hR' G (by omega) (by omega)) e1 (htest.mpr hc)⟩
          · obtain ⟨f2, g2, e2⟩ := ih (j + 1) f1 g1 (by omega)
            rw [ff_F (decide_eq_false hc)]
            exact ⟨f2, g2, p131_29_b (by omega) (lt_n hR.1 hn hjn) hS (sp108 (s := s) (r := j) hR' G (by omega) (by omega)) e1 (fun z => hc (htest.mp z)) (I_add j 1) e2⟩
      obtain ⟨f', g', e'⟩ := key n 0 f0 g0 (by omega)
      refine ⟨f', g', ?_⟩
      have hif : (if Hn n N s = 0 ∨ Hn n N s = 512 ∨ aimB n N s = n then (-1 : Int32) else I (aimB n N s)) = if aimB n N s = n then -1 else I (aimB n N s) := by
        by_cases h5 : aimB n N s = n
        · rw [if_pos (Or.inr (Or.inr h5)), if_pos h5]
        · rw [if_neg (by omega), if_neg h5]
      rw [hif]
      rw [hsv] at h0
      exact p131_e_b (by omega) hS h0 (fun z => h1 ((I_inj (by omega) (by omega)).mp (show I _ = I 0 from z))) (fun z => by have := (I_inj (b := 999) (by omega) (by decide)).mp z; omega) e'
end
