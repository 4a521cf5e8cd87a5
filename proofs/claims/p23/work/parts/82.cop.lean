/-! ONE COP CATCHES JUST IF THE GRAPH FALLS APART. -/
section
variable {n : Nat} {N : Nat → Nat}
/-- caught by one cop among the rooms L with at most k moves, the cop moving first -/
def cwl (N : Nat → Nat) (L : Nat) : Nat → Nat → Nat → Prop
  | 0, a, r => a = r
  | k + 1, a, r => a = r ∨ ∃ x, L.testBit x = true ∧ nr N a x = true ∧ (x = r ∨ ∀ z, L.testBit z = true → nr N r z = true → cwl N L k x z)
theorem cwl_eq {L a : Nat} : ∀ k, cwl N L k a a
  | 0 => rfl
  | _ + 1 => Or.inl rfl
theorem cwl_step {L : Nat} : ∀ {k a r : Nat}, cwl N L k a r → cwl N L (k + 1) a r
  | 0, a, r, h => Or.inl h
  | k + 1, a, r, h => by
    rcases h with h | ⟨x, h1, h2, h3⟩
    · exact Or.inl h
    · refine Or.inr ⟨x, h1, h2, ?_⟩
      rcases h3 with h3 | h3
      · exact Or.inl h3
      · exact Or.inr (fun z hz hn => cwl_step (h3 z hz hn))
theorem cwl_le {L k j a r : Nat} (h : k ≤ j) (h1 : cwl N L k a r) : cwl N L j a r := by
  obtain ⟨i, rfl⟩ : ∃ i, j = k + i := ⟨j - k, by omega⟩
  clear h
  induction i with
  | zero => exact h1
  | succ i ih => exact cwl_step ih
theorem cwl_near {L a r : Nat} (hr : L.testBit r = true) (h : nr N a r = true) : cwl N L 1 a r := Or.inr ⟨r, hr, h, Or.inl rfl⟩
/-- one cop catches among L -/
def CWn (N : Nat → Nat) (L : Nat) : Prop := ∃ a, L.testBit a = true ∧ ∀ r, L.testBit r = true → ∃ k, cwl N L k a r
/-- no corner: the robber keeps away -/
theorem keeps (L : Nat) (hno : ∀ c, ¬ Cn N L c) : ∀ k a r, L.testBit r = true → nr N a r = false → ¬ cwl N L k a r
  | 0, a, r, hr, h, hc => by
    have : a = r := hc
    subst this
    rw [nr_self] at h; cases h
  | k + 1, a, r, hr, h, hc => by
    rcases hc with hc | ⟨x, h1, h2, h3⟩
    · subst hc
      rw [nr_self] at h; cases h
    · have hxr : x ≠ r := fun e => by
        subst e
        rw [h2] at h; cases h
      rcases h3 with h3 | h3
      · exact hxr h3
      · apply hno r
        refine ⟨hr, x, hxr, h1, fun z hz hn => ?_⟩
        cases hq : nr N x z with
        | true => rfl
        | false => exact absurd (h3 z hz hn) (keeps L hno k x z hz hq)
theorem two_bits {L a : Nat} (hL : L < 512) (ha : L.testBit a = true) (h : pc L ≠ 1) : ∃ b, L.testBit b = true ∧ b ≠ a := by
  have h1 := pc_rm hL ha
  have h2 : rm L a ≠ 0 := fun z => by
    rw [z] at h1
    exact h (h1.trans (by decide))
  obtain ⟨b, hb⟩ := bit_of_ne h2
  exact ⟨b, (rm_tb hL a b).mp hb⟩
theorem CWn_one {L : Nat} (hL : L < 512) (hno : ∀ c, ¬ Cn N L c) (h : CWn N L) : pc L = 1 := by
  obtain ⟨a, ha, h1⟩ := h
  refine Classical.byContradiction fun hp => ?_
  obtain ⟨b, hb, hba⟩ := two_bits hL ha hp
  apply hno b
  refine ⟨hb, a, Ne.symm hba, ha, fun z hz hn => ?_⟩
  cases hq : nr N a z with
  | true => rfl
  | false =>
    obtain ⟨k, hk⟩ := h1 z hz
    exact absurd hk (keeps L hno k a z hz hq)
theorem one_CWn {L : Nat} (hL : L < 512) (h : pc L = 1) : CWn N L := by
  have h0 : L ≠ 0 := fun z => by rw [z] at h; exact absurd h (by decide)
  obtain ⟨a, ha⟩ := bit_of_ne h0
  refine ⟨a, ha, fun r hr => ⟨0, ?_⟩⟩
  refine Classical.byContradiction fun hne => ?_
  have := pc_two hL ha hr hne
  omega
/-- the shadow: the corner's room is told as the other one -/
def shd (u v x : Nat) : Nat := if x = u then v else x
theorem shd_in {L u v x : Nat} (hL : L < 512) (hD : Dom N L u v) (hx : L.testBit x = true) : (rm L u).testBit (shd u v x) = true := by
  unfold shd
  split
  · exact (rm_tb hL u v).mpr ⟨hD.2.1, hD.1⟩
  · rename_i h
    exact (rm_tb hL u x).mpr ⟨hx, h⟩
theorem shd_nr {L u v x y : Nat} (G : GW n N) (hD : Dom N L u v) (hx : L.testBit x = true) (hy : L.testBit y = true) (h : nr N x y = true) : nr N (shd u v x) (shd u v y) = true := by
  obtain ⟨d1, d2, d3⟩ := hD
  unfold shd
  by_cases h1 : x = u
  · subst h1
    rw [if_pos rfl]
    by_cases h2 : y = x
    · rw [if_pos h2]; exact nr_self N v
    · rw [if_neg h2]; exact d3 y hy h
  · rw [if_neg h1]
    by_cases h2 : y = u
    · subst h2
      rw [if_pos rfl, nr_symm G]
      rw [nr_symm G] at h
      exact d3 x hx h
    · rw [if_neg h2]; exact h
theorem shd_off {u v x : Nat} (h : x ≠ u) : shd u v x = x := by unfold shd; rw [if_neg h]
theorem cwl_down (G : GW n N) {L u v : Nat} (hL : L < 512) (hD : Dom N L u v) : ∀ k a r, L.testBit a = true → (rm L u).testBit r = true → cwl N L k a r → cwl N (rm L u) k (shd u v a) r
  | 0, a, r, ha, hr, h => by
    have e : a = r := h
    subst e
    exact shd_off ((rm_tb hL u a).mp hr).2
  | k + 1, a, r, ha, hr, h => by
    have hr2 := (rm_tb hL u r).mp hr
    rcases h with h | ⟨x, h1, h2, h3⟩
    · subst h
      exact Or.inl (shd_off hr2.2)
    · refine Or.inr ⟨shd u v x, shd_in hL hD h1, shd_nr G hD ha h1 h2, ?_⟩
      rcases h3 with h3 | h3
      · subst h3
        exact Or.inl (shd_off hr2.2)
      · exact Or.inr (fun z hz hn => cwl_down G hL hD k x z h1 hz (h3 z ((rm_tb hL u z).mp hz).1 hn))
theorem cwl_up (G : GW n N) {L u v : Nat} (hL : L < 512) (hD : Dom N L u v) : ∀ k a r, L.testBit r = true → cwl N (rm L u) k a (shd u v r) → cwl N L (k + 1) a r := by
  have base : ∀ a r, L.testBit r = true → a = shd u v r → cwl N L 1 a r := by
    intro a r hr h
    by_cases e : r = u
    · subst e
      unfold shd at h
      rw [if_pos rfl] at h
      subst h
      exact cwl_near hr (hD.2.2 r hr (nr_self N r))
    · rw [shd_off e] at h
      subst h
      exact cwl_eq 1
  intro k
  induction k with
  | zero => exact fun a r hr h => base a r hr h
  | succ k ih =>
    intro a r hr h
    rcases h with h | ⟨x, h1, h2, h3⟩
    · exact cwl_le (by omega) (base a r hr h)
    · have hx := (rm_tb hL u x).mp h1
      refine Or.inr ⟨x, hx.1, h2, ?_⟩
      rcases h3 with h3 | h3
      · by_cases e : r = u
        · subst e
          unfold shd at h3
          rw [if_pos rfl] at h3
          subst h3
          exact Or.inr (fun z hz hn => cwl_le (by omega) (cwl_near hz (hD.2.2 z hz hn)))
        · rw [shd_off e] at h3
          exact Or.inl h3
      · exact Or.inr (fun z hz hn => ih x z hz (h3 _ (shd_in hL hD hz) (shd_nr G hD hr hz hn)))
theorem CWn_rm (G : GW n N) {L u : Nat} (hL : L < 512) (h : Cn N L u) : CWn N L ↔ CWn N (rm L u) := by
  obtain ⟨hu, v, hD⟩ := h
  constructor
  · rintro ⟨a, ha, h1⟩
    refine ⟨shd u v a, shd_in hL hD ha, fun r hr => ?_⟩
    obtain ⟨k, hk⟩ := h1 r ((rm_tb hL u r).mp hr).1
    exact ⟨k, cwl_down G hL hD k a r ha hr hk⟩
  · rintro ⟨a, ha, h1⟩
    refine ⟨a, ((rm_tb hL u a).mp ha).1, fun r hr => ?_⟩
    obtain ⟨k, hk⟩ := h1 _ (shd_in hL hD hr)
    exact ⟨k + 1, cwl_up G hL hD k a r hr hk⟩
theorem CWn_Dx (G : GW n N) : ∀ m L, L < 512 → pc L ≤ m → (CWn N L ↔ Dx N L)
  | 0, L, hL, hp => by
    have h0 : L = 0 := by
      refine Classical.byContradiction fun z => ?_
      obtain ⟨a, ha⟩ := bit_of_ne z
      have := pc_pos hL ha
      omega
    subst h0
    constructor
    · rintro ⟨a, ha, -⟩
      rw [Nat.zero_testBit] at ha; cases ha
    · intro h
      have h1 : ∀ c, ¬ Cn N 0 c := fun c hc => by
        have := hc.1
        rw [Nat.zero_testBit] at this; cases this
      exact absurd ((Dx_none h1).mp h) (by decide)
  | m + 1, L, hL, hp => by
    by_cases h : ∃ c, Cn N L c
    · obtain ⟨c, hc⟩ := h
      have h1 := pc_rm hL hc.1
      rw [CWn_rm G hL hc, Dx_rm G hL hc]
      exact CWn_Dx G m _ (rm_lt (m := 9) hL) (by omega)
    · have hno : ∀ c, ¬ Cn N L c := fun c hc => h ⟨c, hc⟩
      rw [Dx_none hno]
      exact ⟨CWn_one hL hno, one_CWn hL⟩
theorem tb_all {n i : Nat} : (2 ^ n - 1).testBit i = true ↔ i < n := by
  rw [Nat.testBit_two_pow_sub_one, decide_eq_true_eq]
theorem cwl_wc (G : GW n N) : ∀ k a r, r < n → (wc n N k a 9 r = true ↔ cwl N (2 ^ n - 1) k a r)
  | 0, a, r, hr => by
    have hn := G.n9
    constructor
    · intro h
      rcases ct_iff.mp h with h | h
      · exact h
      · omega
    · intro h
      exact ct_iff.mpr (Or.inl h)
  | k + 1, a, r, hr => by
    have hn := G.n9
    constructor
    · intro h
      rcases wc_succ.mp h with h | ⟨x, hx, h1, y, hy, h2, h3⟩
      · rcases h with h | h
        · exact Or.inl h
        · omega
      · have hy9 := near9 G h2
        subst hy9
        refine Or.inr ⟨x, tb_all.mpr hx, h1, ?_⟩
        rcases rb_iff.mp h3 with h4 | h4
        · rcases h4 with h4 | h4
          · exact Or.inl h4
          · omega
        · exact Or.inr (fun z hz hnz => (cwl_wc G k x z (tb_all.mp hz)).mp (h4 z (tb_all.mp hz) hnz))
    · intro h
      rcases h with h | ⟨x, hx, h1, h2⟩
      · exact wc_caught (Or.inl h)
      · refine wc_succ.mpr (Or.inr ⟨x, tb_all.mp hx, h1, 9, by omega, nr_self N 9, ?_⟩)
        rcases h2 with h2 | h2
        · exact rb_iff.mpr (Or.inl (Or.inl h2))
        · exact rb_iff.mpr (Or.inr (fun z hz hnz => (cwl_wc G k x z hz).mpr (h2 z (tb_all.mpr hz) hnz)))
theorem cop_win (G : GW n N) (C : CAP n N) : cfB n N 9 = faB n N := by
  have h512 := two_pow_le G.n9
  have h1p := Nat.one_le_two_pow (n := n)
  apply bool_eq
  rw [fa_iff G, ← CWn_Dx G _ _ (by omega) (Nat.le_refl _), cf_iff]
  constructor
  · rintro ⟨a, ha, h⟩
    refine ⟨a, tb_all.mpr ha, fun r hr => ?_⟩
    have hr' := tb_all.mp hr
    exact ⟨_, (cwl_wc G _ a r hr').mp (tau_yes (h r hr'))⟩
  · rintro ⟨a, ha, h⟩
    refine ⟨a, tb_all.mp ha, fun r hr => ?_⟩
    obtain ⟨k, hk⟩ := h r (tb_all.mpr hr)
    have h2 := C k a 9 r (tb_all.mp ha) (Or.inr rfl) hr ((cwl_wc G k a r hr).mpr hk)
    exact Nat.lt_succ_of_le (tau_le_of h2)
end
