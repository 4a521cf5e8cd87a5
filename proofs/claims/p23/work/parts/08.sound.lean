/-! SOUNDNESS: calls, returns, throws. -/
section
theorem lkp_mem : ∀ {l : List (Nat × Rw)} {pc : Nat} {r : Rw}, lkp l pc = some r → (pc, r) ∈ l
  | [], _, _, h => by cases h
  | q :: l, pc, r, h => by
    unfold lkp at h
    cases hb : Nat.beq q.1 pc with
    | true =>
      rw [hb] at h
      have e1 := Nat.eq_of_beq_eq_true hb
      have e2 : q.2 = r := Option.some.inj h
      have : q = (pc, r) := by rw [← e1, ← e2]
      rw [this]; exact List.mem_cons_self
    | false =>
      rw [hb] at h
      exact List.mem_cons_of_mem _ (lkp_mem h)
theorem rAtM_mem {M : Mt} {pc : Nat} {r : Rw} (h : rAtM M pc = some r) : ∃ l ∈ M.2.2.2.2.2.2, (pc, r) ∈ l := by
  unfold rAtM at h
  split at h
  · rename_i l hl
    exact ⟨l, List.mem_of_getElem? hl, lkp_mem h⟩
  · cases h
theorem mAt_mem {k : Nat} {M : Mt} (h : mAt k = some M) : ∃ g ∈ mtabs, M ∈ g := by
  unfold mAt at h
  split at h
  · rename_i g hg
    exact ⟨g, List.mem_of_getElem? hg, List.mem_of_getElem? h⟩
  · cases h
def Tab : Prop := ∀ g ∈ mtabs, ∀ M ∈ g, mok M = true ∧ GoodIn lw_tbl (mwd M)
theorem good_word {w : Jvm.Cond} (h : (w.onTables && w.keeps) = true ∨ ∃ ty, w = .arrayClass ty) : goodWord w = true := by
  rcases h with h | ⟨ty, rfl⟩
  · unfold goodWord
    split
    · rfl
    · exact h
  · rfl
theorem row_ok (hT : Tab) {k : Nat} {M : Mt} {pc : Nat} {r : Rw} (hM : mAt k = some M) (hr : rAtM M pc = some r) : rok M pc r = true ∧ ∀ w ∈ rwd M r, w ∈ TG := by
  obtain ⟨g, hg, hMg⟩ := mAt_mem hM
  obtain ⟨h1, h2⟩ := hT g hg M hMg
  obtain ⟨l, hl, hq⟩ := rAtM_mem hr
  refine ⟨?_, fun w hw => ?_⟩
  · unfold mok at h1
    have h3 := (nat_and h1).1
    rw [List.all_eq_true] at h3
    have h4 := h3 l hl
    rw [List.all_eq_true] at h4
    have h5 : rok M (pc, r).1 (pc, r).2 = true := h4 (pc, r) hq
    clear h1 h2 h3 h4
    exact h5
  · have hm : w ∈ mwd M := List.mem_append_left _ (List.mem_flatMap.mpr ⟨l, hl, List.mem_flatMap.mpr ⟨_, hq, hw⟩⟩)
    obtain ⟨a1, a2⟩ := h2 w hm
    exact List.mem_filter.mpr ⟨a1, good_word a2⟩
theorem hnd_words (hT : Tab) {k : Nat} {M : Mt} (hM : mAt k = some M) : ∀ q ∈ M.2.2.2.2.1, (q.2.2.2 = 13 ∨ q.2.2.2 = 18 ∨ q.2.2.2 = 24) ∧ ∀ w ∈ hwd q M.2.2.2.2.2.1, w ∈ TG := by
  obtain ⟨g, hg, hMg⟩ := mAt_mem hM
  obtain ⟨h1, h2⟩ := hT g hg M hMg
  intro q hq
  refine ⟨?_, fun w hw => ?_⟩
  · unfold mok at h1
    have := List.all_eq_true.mp (nat_and h1).2 q hq
    simp only [Bool.or_eq_true] at this
    rcases this with (h | h) | h
    · exact Or.inl (Nat.eq_of_beq_eq_true h)
    · exact Or.inr (Or.inl (Nat.eq_of_beq_eq_true h))
    · exact Or.inr (Or.inr (Nat.eq_of_beq_eq_true h))
  · have hm : w ∈ mwd M := List.mem_append_right _ (List.mem_flatMap.mpr ⟨q, hq, hw⟩)
    obtain ⟨a1, a2⟩ := h2 w hm
    exact List.mem_filter.mpr ⟨a1, good_word a2⟩
theorem TG_at {w : Jvm.Cond} (h : w ∈ TG) : (w.onTables && w.keeps) = true ∨ ∃ ty, w = .arrayClass ty := good_of_word (List.mem_filter.mp h).2
/-! what a step does to the counts -/
theorem slt_set {h : AH} {a : Nat} {o o1 : AO} (ha : h.2[a]? = some o) (hz : osz o = osz o1) : slt (h.1, h.2.set a o1) = slt h := by
  have hm : (h.2.set a o1).map osz = h.2.map osz := by
    rw [List.map_set, ← hz]
    apply List.ext_getElem?
    intro k
    rw [List.getElem?_set]
    by_cases hk : a = k
    · subst hk
      obtain ⟨hlt, e9⟩ := List.getElem?_eq_some_iff.mp ha
      simp [hlt, e9]
    · simp [hk]
  simp only [slt, hm]
def mono (h h' : AH) : Prop := h.1 ≤ h'.1 ∧ cnt h ≤ cnt h' ∧ slt h ≤ slt h'
theorem mono.rf {h : AH} : mono h h := ⟨Nat.le_refl _, Nat.le_refl _, Nat.le_refl _⟩
theorem mono.trans {a b c : AH} (h1 : mono a b) (h2 : mono b c) : mono a c := ⟨Nat.le_trans h1.1 h2.1, Nat.le_trans h1.2.1 h2.2.1, Nat.le_trans h1.2.2 h2.2.2⟩
theorem mono.set {h : AH} {a : Nat} {o o1 : AO} (ha : h.2[a]? = some o) (hz : osz o = osz o1) : mono h (h.1, h.2.set a o1) := ⟨Nat.le_refl _, by simp [cnt], by rw [slt_set ha hz]; exact Nat.le_refl _⟩
theorem mono.app {h : AH} {o : AO} : mono h (h.1, h.2 ++ [o]) := ⟨Nat.le_refl _, by simp [cnt], by simp [slt, List.sum_append]⟩
theorem stp_mono {pc : Nat} {r : Rw} {L S : List Value} {h : AH} {c' : Cf} (hs : stp pc r L S h = some c') : mono h c'.2.2.2 := by
  obtain ⟨i, n, x1, x2, x3⟩ := r
  cases i
  case aload_n k => obtain ⟨x, e1, rfl⟩ := lda_inv hs; exact mono.rf
  case aload k => obtain ⟨x, e1, rfl⟩ := lda_inv hs; exact mono.rf
  case iload_n k => obtain ⟨x, e1, rfl⟩ := ldi_inv hs; exact mono.rf
  case iload k => obtain ⟨x, e1, rfl⟩ := ldi_inv hs; exact mono.rf
  case istore_n k => obtain ⟨x, S', rfl, hk, rfl⟩ := sti_inv hs; exact mono.rf
  case istore k => obtain ⟨x, S', rfl, hk, rfl⟩ := sti_inv hs; exact mono.rf
  case astore_n k => obtain ⟨x, S', rfl, hk, rfl⟩ := sta_inv hs; exact mono.rf
  case astore k => obtain ⟨x, S', rfl, hk, rfl⟩ := sta_inv hs; exact mono.rf
  case iadd => obtain ⟨x, y, S', rfl, rfl⟩ := bin_inv hs; exact mono.rf
  case isub => obtain ⟨x, y, S', rfl, rfl⟩ := bin_inv hs; exact mono.rf
  case imul => obtain ⟨x, y, S', rfl, rfl⟩ := bin_inv hs; exact mono.rf
  case iand => obtain ⟨x, y, S', rfl, rfl⟩ := bin_inv hs; exact mono.rf
  case ior => obtain ⟨x, y, S', rfl, rfl⟩ := bin_inv hs; exact mono.rf
  case ixor => obtain ⟨x, y, S', rfl, rfl⟩ := bin_inv hs; exact mono.rf
  case ishl => obtain ⟨x, y, S', rfl, rfl⟩ := bin_inv hs; exact mono.rf
  case ishr => obtain ⟨x, y, S', rfl, rfl⟩ := bin_inv hs; exact mono.rf
  case iushr => obtain ⟨x, y, S', rfl, rfl⟩ := bin_inv hs; exact mono.rf
  case iconst k => cases hs; exact mono.rf
  case bipush k => cases hs; exact mono.rf
  case sipush k => cases hs; exact mono.rf
  case lconst k => cases hs; exact mono.rf
  case goto k => cases hs; exact mono.rf
  case ldc k => cases x1 <;> cases hs; exact mono.rf
  case ldc_w k => cases x1 <;> cases hs; exact mono.rf
  case idiv =>
    simp only [stp] at hs
    split at hs
    · rename_i y x S'
      cases hy : decide (y = 0) <;> rw [hy] at hs <;> cases hs
      exact mono.rf
    · cases hs
  case irem =>
    simp only [stp] at hs
    split at hs
    · rename_i y x S'
      cases hy : decide (y = 0) <;> rw [hy] at hs <;> cases hs
      exact mono.rf
    · cases hs
  case newarray t =>
    simp only [stp] at hs
    split at hs
    · split at hs
      · unfold nwa at hs
        split at hs <;> cases hs <;> exact mono.app
      · cases hs
    · cases hs
  case new t =>
    simp only [stp] at hs
    split at hs
    · cases hs; exact mono.app
    · cases hs
  case getfield k =>
    simp only [stp] at hs
    split at hs
    · split at hs
      · rename_i ci fs ha
        split at hs
        · cases hv : fs[x2]? <;> rw [hv] at hs <;> cases hs
          exact mono.rf
        · cases hs
      · cases hs
    · cases hs
  case putfield k =>
    simp only [stp] at hs
    split at hs
    · split at hs
      · rename_i ha
        split at hs
        · cases hs
          exact mono.set ha (by simp [osz])
        · cases hs
      · cases hs
    · cases hs
  case iastore =>
    simp only [stp] at hs
    split at hs
    · split at hs
      · rename_i ha
        split at hs
        · cases hs
          exact mono.set ha rfl
        · cases hs
      · cases hs
    · cases hs
  all_goals first
    | (cases hs; done)
    | (simp only [stp] at hs; (repeat' split at hs) <;> cases hs <;> exact mono.rf)
end
