/-! SOUNDNESS: what the abstract machine does, the machine does. -/
section
def adr (bs ba : Nat) (a : Nat) : Nat := match a with
  | 0 => bs
  | j + 1 => ba + j
def vmp (bs ba : Nat) (v : Value) : Value := match v with
  | .ref a => .ref (adr bs ba a)
  | v => v
def ent (cI cJ : ClassId) (bs ba : Nat) (o : AO) : va_E := match o with
  | .inl (n, .inl f) => .inl (cI, n, .inl f)
  | .inl a => .inl (cJ, a)
  | .inr (ci, fs) => .inr (ci, fs.map (vmp bs ba))
def wsF (cI cJ : ClassId) (bs ba : Nat) : Nat → List AO → va_W
  | _, [] => []
  | a, o :: t => (a, ent cI cJ bs ba o) :: wsF cI cJ bs ba (a + 1) t
theorem wsF_get (cI cJ : ClassId) (bs ba : Nat) : ∀ (t : List AO) (a k : Nat), (wsF cI cJ bs ba a t)[k]? = (t[k]?).map (fun o => (a + k, ent cI cJ bs ba o))
  | [], a, k => by simp [wsF]
  | o :: t, a, 0 => by simp [wsF]
  | o :: t, a, k + 1 => by
    simp only [wsF, List.getElem?_cons_succ]
    rw [wsF_get cI cJ bs ba t (a + 1) k]
    congr 1
    funext o
    rw [show a + 1 + k = a + (k + 1) by omega]
theorem wsF_len (cI cJ : ClassId) (bs ba : Nat) : ∀ (t : List AO) (a : Nat), (wsF cI cJ bs ba a t).length = t.length
  | [], a => rfl
  | o :: t, a => by simp [wsF, wsF_len cI cJ bs ba t]
theorem wsF_set (cI cJ : ClassId) (bs ba : Nat) (t : List AO) (a k : Nat) (o : AO) : wsF cI cJ bs ba a (t.set k o) = (wsF cI cJ bs ba a t).set k (a + k, ent cI cJ bs ba o) := by
  apply List.ext_getElem?
  intro j
  rw [wsF_get, List.getElem?_set, List.getElem?_set, wsF_len, wsF_get]
  by_cases hj : k = j
  · subst hj
    by_cases hk : k < t.length
    · simp [hk]
    · simp [hk]
  · simp [hj]
theorem wsF_app (cI cJ : ClassId) (bs ba : Nat) (t : List AO) (a : Nat) (o : AO) : wsF cI cJ bs ba a (t ++ [o]) = wsF cI cJ bs ba a t ++ [(a + t.length, ent cI cJ bs ba o)] := by
  apply List.ext_getElem?
  intro j
  rw [wsF_get, List.getElem?_append, List.getElem?_append, wsF_len]
  by_cases hj : j < t.length
  · rw [if_pos hj, if_pos hj, wsF_get]
  · rw [if_neg hj, if_neg hj]
    by_cases h0 : j - t.length = 0
    · have : j = t.length := by omega
      subst this
      simp
    · obtain ⟨n, hn⟩ := Nat.exists_eq_succ_of_ne_zero h0
      rw [hn]
      simp
theorem wsF_D (cI cJ : ClassId) (bs ba : Nat) (t : List AO) : va_D (fun q => ba ≤ q) (wsF cI cJ bs ba ba t) := by
  refine ⟨fun i j p q hp hq e => ?_, fun k q hq => ?_⟩
  · rw [wsF_get] at hp hq
    obtain ⟨_, -, rfl⟩ := Option.map_eq_some_iff.mp hp
    obtain ⟨_, -, rfl⟩ := Option.map_eq_some_iff.mp hq
    have e' : ba + i = ba + j := e
    omega
  · rw [wsF_get] at hq
    obtain ⟨_, -, rfl⟩ := Option.map_eq_some_iff.mp hq
    exact Nat.le_add_right _ _
def osz (o : AO) : Nat := match o with
  | .inl a => a.1
  | .inr q => q.2.length
def cnt (h : AH) : Nat := h.1 + h.2.length
def slt (h : AH) : Nat := 6 * h.1 + (h.2.map osz).sum
def CorH (dC : Nat → ClassId) (dI : Nat → Nat → Nat) (cI cJ : ClassId) (bs ba Ls : Nat) (xs : Nat → Int32) (h : AH) (H : Heap) : Prop :=
  ∃ t, h.2 = .inl (Ls, .inl xs) :: t ∧ va_P (dC, dI) vwCl (wsF cI cJ bs ba ba t) H ∧ ba + t.length ≤ H.size
def prsF (bs ba : Nat) : Nat → List Value → List (Nat × Value)
  | _, [] => []
  | i, .retAddr _ :: t => prsF bs ba (i + 1) t
  | i, v :: t => (i, vmp bs ba v) :: prsF bs ba (i + 1) t
theorem prsF_cons (bs ba i : Nat) (v : Value) (t : List Value) (hv : ∀ p, v ≠ .retAddr p) : prsF bs ba i (v :: t) = (i, vmp bs ba v) :: prsF bs ba (i + 1) t := by
  cases v <;> first | rfl | exact absurd rfl (hv _)
theorem prsF_mem (bs ba : Nat) : ∀ (L : List Value) (i n : Nat) (w : Value), (n, w) ∈ prsF bs ba i L ↔ ∃ (j : Nat) (v : Value), L[j]? = some v ∧ (∀ p, v ≠ .retAddr p) ∧ n = i + j ∧ w = vmp bs ba v
  | [], i, n, w => by simp [prsF]
  | v :: t, i, n, w => by
    have ih := prsF_mem bs ba t (i + 1) n w
    by_cases hv : ∀ p, v ≠ .retAddr p
    · rw [prsF_cons bs ba i v t hv, List.mem_cons]
      constructor
      · rintro (e | h)
        · cases e
          exact ⟨0, v, rfl, hv, rfl, rfl⟩
        · obtain ⟨j, v', h1, h2, h3, h4⟩ := ih.mp h
          exact ⟨j + 1, v', h1, h2, by omega, h4⟩
      · rintro ⟨j, v', h1, h2, h3, h4⟩
        cases j with
        | zero =>
          cases h1
          left
          rw [h3, h4]
          rfl
        | succ j => exact Or.inr (ih.mpr ⟨j, v', h1, h2, by omega, h4⟩)
    · have : ∃ p, v = .retAddr p := by
        cases v with
        | retAddr p => exact ⟨p, rfl⟩
        | _ => exact absurd (fun p h => by cases h) hv
      obtain ⟨p, rfl⟩ := this
      show (n, w) ∈ prsF bs ba (i + 1) t ↔ _
      rw [ih]
      constructor
      · rintro ⟨j, v', h1, h2, h3, h4⟩
        exact ⟨j + 1, v', h1, h2, by omega, h4⟩
      · rintro ⟨j, v', h1, h2, h3, h4⟩
        cases j with
        | zero => cases h1; exact absurd rfl (h2 p)
        | succ j => exact ⟨j, v', h1, h2, by omega, h4⟩
def lcs (bs ba : Nat) (L : List Value) (ls : Array Slot) (nL : Nat) : Prop := L.length = nL ∧ lv_has ls nL (prsF bs ba 0 L) ∧ ∀ v ∈ L, v.category = 1
theorem vmp_cat (bs ba : Nat) (v : Value) : (vmp bs ba v).category = v.category := by cases v <;> rfl
theorem lcs.get {bs ba : Nat} {L : List Value} {ls : Array Slot} {nL n : Nat} {v : Value} (h : lcs bs ba L ls nL) (hv : L[n]? = some v) (hj : ∀ p, v ≠ .retAddr p) : ls[n]? = some (.val (vmp bs ba v)) :=
  h.2.1.2.2 (n, vmp bs ba v) ((prsF_mem bs ba L 0 n _).mpr ⟨n, v, hv, hj, by omega, rfl⟩)
theorem lcs.put {bs ba : Nat} {L : List Value} {ls ls' : Array Slot} {nL i : Nat} {v w : Value} (h : lcs bs ba L ls nL) (hv : v.category = 1) (hw : w = vmp bs ba v ∨ ∃ p, v = .retAddr p)
    (h' : lv_has ls' nL ((i, w) :: (prsF bs ba 0 L).filter (fun q => !(q.1 == i) && !(q.1 + 1 == i && q.2.category == 2)))) : lcs bs ba (L.set i v) ls' nL := by
  refine ⟨by rw [List.length_set]; exact h.1, ⟨h'.1, h'.2.1, fun q hq => ?_⟩, fun u hu => ?_⟩
  · obtain ⟨n, u⟩ := q
    obtain ⟨j, v', h1, h2, h3, h4⟩ := (prsF_mem bs ba _ 0 n u).mp hq
    have hjn : n = j := by omega
    subst hjn
    subst h4
    rw [List.getElem?_set] at h1
    by_cases hij : i = n
    · subst hij
      rw [if_pos rfl] at h1
      split at h1
      · cases h1
        rcases hw with rfl | ⟨p, rfl⟩
        · exact h'.2.2 _ List.mem_cons_self
        · exact absurd rfl (h2 p)
      · cases h1
    · rw [if_neg hij] at h1
      refine h'.2.2 _ (List.mem_cons_of_mem _ (List.mem_filter.mpr ⟨(prsF_mem bs ba L 0 n _).mpr ⟨n, v', h1, h2, by omega, rfl⟩, ?_⟩))
      have hc : (vmp bs ba v').category = 1 := by rw [vmp_cat]; exact h.2.2 v' (List.mem_of_getElem? h1)
      have hne : (n == i) = false := by simp; omega
      simp [hne, hc]
  · rcases List.mem_or_eq_of_mem_set hu with h1 | h1
    · exact h.2.2 u h1
    · rw [h1]; exact hv
end
