/-! THE HUNT, reference: breadth first. -/
section
variable {E : Nat × (Nat → Int32)} {w : Wd} {d n : Nat} {N : Nat → Nat}
def updN (f : Nat → Nat) (k v : Nat) : Nat → Nat := fun i => if i = k then v else f i
theorem updN_same (f : Nat → Nat) (k v : Nat) : updN f k v k = v := by simp [updN]
theorem updN_ne {f : Nat → Nat} {k v i : Nat} (h : i ≠ k) : updN f k v i = f i := by simp [updN, h]
theorem sA_comm {i j : Nat} (hij : i ≠ j) (f g : Nat → Int32) (w : Wd) : sA i f (sA j g w) = sA j g (sA i f w) := by
  unfold sA
  congr 1
  funext k
  show (bif Nat.beq k i then f else (bif Nat.beq k j then g else w.1 k)) = (bif Nat.beq k j then g else (bif Nat.beq k i then f else w.1 k))
  cases h1 : Nat.beq k i with
  | false => rfl
  | true =>
    cases h2 : Nat.beq k j with
    | false => rfl
    | true => exact absurd ((Nat.eq_of_beq_eq_true h1).symm.trans (Nat.eq_of_beq_eq_true h2)) hij
theorem sm_upd {f g : Nat → Nat} {k : Nat} : ∀ {n : Nat}, k < n → g k = f k + 1 → (∀ i, i ≠ k → g i = f i) → sm g n = sm f n + 1
  | 0, h, _, _ => by omega
  | n + 1, h, h1, h2 => by
    show sm g n + g n = sm f n + f n + 1
    by_cases e : k = n
    · subst e
      have : ∀ m, m ≤ k → sm g m = sm f m := by
        intro m
        induction m with
        | zero => intro _; rfl
        | succ m ih =>
          intro hm
          show sm g m + g m = sm f m + f m
          rw [ih (by omega), h2 m (by omega)]
      rw [this k (Nat.le_refl _), h1]
      omega
    · rw [sm_upd (n := n) (by omega) h1 h2, h2 n (fun z => e z.symm)]
      omega
def cn (F : Nat → Nat) : Nat := sm (fun t => (decide (F t ≠ 999)).toNat) 512
theorem cn_upd {F : Nat → Nat} {t v : Nat} (ht : t < 512) (h : F t = 999) (hv : v ≠ 999) : cn (updN F t v) = cn F + 1 := by
  unfold cn
  refine sm_upd ht ?_ (fun i hi => by rw [updN_ne hi])
  rw [updN_same, h, decide_eq_true hv]
  rfl
theorem cn_lt {F : Nat → Nat} {t : Nat} (ht : t < 512) (h : F t = 999) : cn F < 512 := by
  have h1 := cn_upd (v := 0) ht h (by decide)
  have h2 := sm_bool (fun i => decide (updN F t 0 i ≠ 999)) 512
  have h3 : cn (updN F t 0) ≤ 512 := h2
  omega
/-- the search as it stands -/
def BI (n : Nat) (N : Nat → Nat) (s : Nat) (q F : Nat → Nat) (e kk room : Nat) : Prop :=
  (∀ i, i < e → q i < 2 ^ n ∧ F (q i) ≤ i) ∧ (∀ t, t < 2 ^ n → F t ≠ 999 → ∃ i, i < e ∧ q i = t) ∧ (∀ i j, i ≤ j → j < e → F (q i) ≤ F (q j)) ∧ (kk < e → ∀ j, j < e → F (q j) ≤ F (q kk) + 1) ∧ (∀ t, t < 2 ^ n → F t ≠ 999 → ∀ m, hq n N m t = true → hq n N (m + F t) s = true) ∧
  (∀ i, i < kk → ∀ r, r < n → F (bh n N (q i) r) ≠ 999 ∧ F (bh n N (q i) r) ≤ F (q i) + 1) ∧ (kk < e → ∀ r, r < room → F (bh n N (q kk) r) ≠ 999 ∧ F (bh n N (q kk) r) ≤ F (q kk) + 1) ∧ F s = 0 ∧ cn F = e ∧ e ≤ 512 ∧ kk ≤ e
theorem BI_old (G : GW n N) {s e kk room : Nat} {q F : Nat → Nat} (B : BI n N s q F e kk room) (hk : kk < e) (h : F (bh n N (q kk) room) ≠ 999) : BI n N s q F e kk (room + 1) := by
  obtain ⟨b1, b2, b3, b4, b5, b6, b7, b8⟩ := B
  refine ⟨b1, b2, b3, b4, b5, b6, fun hke r hr => ?_, b8⟩
  by_cases e1 : r = room
  · subst e1
    obtain ⟨j, hj, hq⟩ := b2 _ (bh_lt G _ _) h
    exact ⟨h, by rw [← hq]; exact b4 hk j hj⟩
  · exact b7 hke r (by omega)
theorem BI_new (G : GW n N) {s e kk room : Nat} {q F : Nat → Nat} (hr : room < n) (B : BI n N s q F e kk room) (hk : kk < e) (h : F (bh n N (q kk) room) = 999) : e < 512 ∧ BI n N s (updN q e (bh n N (q kk) room)) (updN F (bh n N (q kk) room) (F (q kk) + 1)) (e + 1) kk (room + 1) := by
  obtain ⟨b1, b2, b3, b4, b5, b6, b7, b8, b9, b10, b11⟩ := B
  have h512 := two_pow_le G.n9
  have hto := bh_lt G (q kk) room
  have he : e < 512 := by rw [← b9]; exact cn_lt (Nat.lt_of_lt_of_le hto h512) h
  have hkq := b1 kk hk
  have hv : F (q kk) + 1 ≠ 999 := by omega
  have hold : ∀ i, i < e → q i ≠ bh n N (q kk) room := fun i hi z => by
    have := (b1 i hi).2
    rw [z, h] at this
    omega
  have hF : ∀ i, i < e → updN F (bh n N (q kk) room) (F (q kk) + 1) (updN q e (bh n N (q kk) room) i) = F (q i) := fun i hi => by
    rw [updN_ne (show i ≠ e by omega), updN_ne (hold i hi)]
  have hFe : updN F (bh n N (q kk) room) (F (q kk) + 1) (updN q e (bh n N (q kk) room) e) = F (q kk) + 1 := by rw [updN_same, updN_same]
  have hup : ∀ t b, F t ≠ 999 ∧ F t ≤ b → updN F (bh n N (q kk) room) (F (q kk) + 1) t ≠ 999 ∧ updN F (bh n N (q kk) room) (F (q kk) + 1) t ≤ b := fun t b ⟨h1, h2⟩ => by
    have hne : t ≠ bh n N (q kk) room := fun z => h1 (by rw [z]; exact h)
    rw [updN_ne hne]
    exact ⟨h1, h2⟩
  refine ⟨he, fun i hi => ?_, fun t ht h1 => ?_, fun i j hij hj => ?_, fun hke j hj => ?_, fun t ht h1 m hm => ?_, fun i hi r hr2 => ?_, fun hke r hr2 => ?_, ?_, ?_, by omega, by omega⟩
  · by_cases e1 : i = e
    · rw [e1, hFe, updN_same]
      exact ⟨hto, by omega⟩
    · rw [hF i (by omega), updN_ne e1]
      exact b1 i (by omega)
  · by_cases e1 : t = bh n N (q kk) room
    · exact ⟨e, by omega, by rw [updN_same]; exact e1.symm⟩
    · rw [updN_ne e1] at h1
      obtain ⟨i, hi, hq⟩ := b2 t ht h1
      exact ⟨i, by omega, by rw [updN_ne (show i ≠ e by omega)]; exact hq⟩
  · by_cases e1 : j = e
    · by_cases e2 : i = e
      · rw [e1, e2]; exact Nat.le_refl _
      · rw [e1, hFe, hF i (by omega)]
        exact b4 hk i (by omega)
    · rw [hF i (by omega), hF j (by omega)]
      exact b3 i j hij (by omega)
  · rw [hF kk hk]
    by_cases e1 : j = e
    · rw [e1, hFe]; exact Nat.le_refl _
    · rw [hF j (by omega)]
      exact b4 hk j (by omega)
  · by_cases e1 : t = bh n N (q kk) room
    · rw [e1, updN_same]
      rw [e1] at hm
      have h2 : hq n N (m + 1) (q kk) = true := hq_succ_iff.mpr (Or.inr ⟨room, hr, hm⟩)
      have h3 := b5 (q kk) hkq.1 (by omega) (m + 1) h2
      rw [show m + (F (q kk) + 1) = m + 1 + F (q kk) by omega]
      exact h3
    · rw [updN_ne e1] at h1 ⊢
      exact b5 t ht h1 m hm
  · rw [hF i (by omega), updN_ne (show i ≠ e by omega)]
    exact hup _ _ (b6 i hi r hr2)
  · rw [hF kk hk, updN_ne (show kk ≠ e by omega)]
    by_cases e1 : r = room
    · subst e1
      rw [updN_same]
      exact ⟨hv, Nat.le_refl _⟩
    · exact hup _ _ (b7 hk r (by omega))
  · rw [updN_ne (fun z => by rw [z, h] at b8; cases b8)]
    exact b8
  · rw [cn_upd (Nat.lt_of_lt_of_le hto h512) h hv, b9]
theorem BI_next {s e kk : Nat} {q F : Nat → Nat} (B : BI n N s q F e kk n) (hk : kk < e) : BI n N s q F e (kk + 1) 0 := by
  obtain ⟨b1, b2, b3, b4, b5, b6, b7, b8, b9, b10, b11⟩ := B
  refine ⟨b1, b2, b3, fun hke j hj => ?_, b5, fun i hi r hr => ?_, fun _ r hr => by omega, b8, b9, b10, by omega⟩
  · have h1 := b4 hk j hj
    have h2 := b3 kk (kk + 1) (by omega) hke
    omega
  · by_cases e1 : i = kk
    · subst e1; exact b7 hk r hr
    · exact b6 i (by omega) r hr
/-- what the reference's search says: 999 where there is none -/
def sv (n : Nat) (N : Nat → Nat) (s : Nat) : Int32 := if Hn n N s < 512 then I (Hn n N s) else 999
theorem BI_end (G : GW n N) {s e : Nat} {q F : Nat → Nat} (hs : s < 2 ^ n) (B : BI n N s q F e e 0) : I (F 0) = sv n N s := by
  obtain ⟨b1, b2, b3, b4, b5, b6, b7, b8, b9, b10, b11⟩ := B
  have h1p := Nat.one_le_two_pow (n := n)
  have low : ∀ m t, t < 2 ^ n → F t ≠ 999 → hq n N m t = true → F 0 ≠ 999 ∧ F 0 ≤ F t + m := by
    intro m
    induction m with
    | zero =>
      intro t ht h1 h2
      have : t = 0 := of_decide_eq_true h2
      subst this
      exact ⟨h1, Nat.le_refl _⟩
    | succ m ih =>
      intro t ht h1 h2
      rcases hq_succ_iff.mp h2 with h3 | ⟨r, hr, h3⟩
      · subst h3; exact ⟨h1, by omega⟩
      · obtain ⟨i, hi, hqi⟩ := b2 t ht h1
        have h4 := b6 i hi r hr
        rw [hqi] at h4
        have h5 := ih _ (bh_lt G t r) h4.1 h3
        exact ⟨h5.1, by omega⟩
  unfold sv
  by_cases h0 : F 0 = 999
  · have hn : ¬ Hn n N s < 512 := fun z => by
      have := low _ s hs (by rw [b8]; decide) (Hn_yes z)
      exact this.1 h0
    rw [if_neg hn, h0]
    rfl
  · have h1 := b5 0 (by omega) h0 0 rfl
    rw [Nat.zero_add] at h1
    have h2 := low _ s hs (by rw [b8]; decide) (hq_bound G hs h1)
    have h3 : Hn n N s = F 0 := Hn_eq (by omega) h1 (fun i hi => by
      cases h4 : hq n N i s with
      | false => rfl
      | true =>
        have := low i s hs (by rw [b8]; decide) h4
        omega)
    rw [if_pos (by omega), h3]
/-- the arrays hold it -/
def BW (f g : Nat → Int32) (q F : Nat → Nat) (e : Nat) : Prop := (∀ i, i < 512 → f i = I (F i)) ∧ ∀ i, i < e → g i = I (q i)
/-- THE REFERENCE'S ANSWERS -/
theorem sv_hv {s : Nat} : (if sv n N s = (999 : Int32) then (-1 : Int32) else sv n N s) = hv n N s := by
  unfold sv hv
  by_cases h : Hn n N s < 512
  · rw [if_pos h, if_pos h, if_neg (fun z => by have := (I_inj (b := 999) (by omega) (by decide)).mp z; omega)]
  · rw [if_neg h, if_neg h, if_pos rfl]
end
