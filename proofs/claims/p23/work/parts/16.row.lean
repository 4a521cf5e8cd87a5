/-! ROWS: what Row.at, Row.put, Row.putAll do; loops. -/
section
theorem Ev.gfr {d k pc n ci j x3 a idx : Nat} {M : Mt} {fs : List Value} {v : Value} {L S : List Value} {h : AH} {o : Ou} (hM : mAt k = some M) (hr : rAtM M pc = some (.getfield idx, n, ci, j, x3)) (h1 : h.2[a]? = some (.inr (ci, fs))) (hf : fs[j]? = some v) (e : Ev d k (pc + 3, L, v :: S, h) o) : Ev d k (pc, L, .ref a :: S, h) o :=
  Ev.step hM hr (by simp only [stp, h1, Nat.beq_refl, hf, psh]) e
theorem Ev.len {d k pc n m a : Nat} {x : Nat × Nat × Nat} {M : Mt} {f : Nat → Int32} {L S : List Value} {h : AH} {o : Ou} (hM : mAt k = some M) (hr : rAtM M pc = some (.arraylength, n, x)) (h1 : h.2[a]? = some (.inl (m, .inl f))) (e : Ev d k (pc + 1, L, .int (I m) :: S, h) o) : Ev d k (pc, L, .ref a :: S, h) o :=
  Ev.step hM hr (by simp only [stp, h1]) e
def rv (n : Nat) (f : Nat → Int32) (r : Nat) : Int32 := if r < n then f r else 0
def rp (n : Nat) (f : Nat → Int32) (r : Nat) (v : Int32) : Nat → Int32 := if r < n then upd f r v else f
def ra (n : Nat) (f : Nat → Int32) (v : Int32) : Nat → Int32 := fun i => if i < n then v else f i
theorem rv_in {n r : Nat} {f : Nat → Int32} (h : r < n) : rv n f r = f r := by simp [rv, h]
theorem rp_in {n r : Nat} {f : Nat → Int32} {v : Int32} (h : r < n) : rp n f r v = upd f r v := by simp [rp, h]
theorem upd_ap (f : Nat → Int32) (r : Nat) (v : Int32) (i : Nat) : upd f r v i = if i = r then v else f i := by
  unfold upd
  rfl
theorem hM_55 : mAt 55 = some km_X6_at := rfl
theorem hM_56 : mAt 56 = some km_X6_put := rfl
theorem hM_57 : mAt 57 = some km_X6_putAll := rfl
theorem row_at {d a b n r : Nat} {f : Nat → Int32} {h : AH} (h1 : h.2[a]? = some (.inr (5, [.ref b]))) (h2 : h.2[b]? = some (.inl (n, .inl f))) (hn : n ≤ 2147483647) (hr : r < 2147483648) : Ev d 55 (ent0 55 [.ref a, .int (I r)] h) (.inl (some (.int (rv n f r))), h) := by
  refine Ev.run (c' := (1, [.ref a, .int (I r)], [.int (I r)], h)) hM_55 1 rfl ?_
  refine Ev.ifF hM_55 rfl (cI_ltF (I_nneg hr)) ?_
  refine Ev.run (c' := (6, [.ref a, .int (I r)], [.ref a, .int (I r)], h)) hM_55 2 rfl ?_
  refine Ev.gfr hM_55 rfl h1 rfl ?_
  refine Ev.len hM_55 rfl h2 ?_
  by_cases hc : r < n
  · refine Ev.icF hM_55 rfl (cI_geF ((I_lt hr (by omega)).mpr hc)) ?_
    refine Ev.run (c' := (14, [.ref a, .int (I r)], [.ref a], h)) hM_55 1 rfl ?_
    refine Ev.gfr hM_55 rfl h1 rfl ?_
    refine Ev.run (c' := (18, [.ref a, .int (I r)], [.int (I r), .ref b], h)) hM_55 1 rfl ?_
    refine Ev.iald hM_55 rfl h2 (inb_I hc (by omega)) ?_
    rw [I_clamp hr, rv_in hc]
    refine Ev.run (c' := (23, [.ref a, .int (I r)], [.int (f r)], h)) hM_55 1 rfl ?_
    exact Ev.fin hM_55 rfl rfl
  · refine Ev.icT hM_55 rfl (cI_geT (fun z => hc ((I_lt hr (by omega)).mp z))) ?_
    have e : rv n f r = 0 := by simp [rv, hc]
    rw [e]
    refine Ev.run (c' := (23, [.ref a, .int (I r)], [.int 0], h)) hM_55 1 rfl ?_
    exact Ev.fin hM_55 rfl rfl
theorem set_self {h : AH} {b : Nat} {o : AO} (h2 : h.2[b]? = some o) : ((h.1, h.2.set b o) : AH) = h := by
  have : h.2.set b o = h.2 := by
    apply List.ext_getElem?
    intro i
    rw [List.getElem?_set]
    by_cases hi : b = i
    · subst hi
      rw [if_pos rfl, h2]
      obtain ⟨hlt, -⟩ := List.getElem?_eq_some_iff.mp h2
      rw [if_pos hlt]
    · rw [if_neg hi]
  rw [this]
theorem row_put {d a b n r : Nat} {f : Nat → Int32} {v : Int32} {h h' : AH} (h1 : h.2[a]? = some (.inr (5, [.ref (b + 1)]))) (h2 : h.2[b + 1]? = some (.inl (n, .inl f))) (hn : n ≤ 2147483647) (hr : r < 2147483648) (hh : ((h.1, h.2.set (b + 1) (.inl (n, .inl (rp n f r v)))) : AH) = h') : Ev d 56 (ent0 56 [.ref a, .int (I r), .int v] h) (.inl none, h') := by
  refine Ev.run (c' := (1, [.ref a, .int (I r), .int v], [.int (I r)], h)) hM_56 1 rfl ?_
  refine Ev.ifF hM_56 rfl (cI_ltF (I_nneg hr)) ?_
  refine Ev.run (c' := (6, [.ref a, .int (I r), .int v], [.ref a, .int (I r)], h)) hM_56 2 rfl ?_
  refine Ev.gfr hM_56 rfl h1 rfl ?_
  refine Ev.len hM_56 rfl h2 ?_
  by_cases hc : r < n
  · refine Ev.icF hM_56 rfl (cI_geF ((I_lt hr (by omega)).mpr hc)) ?_
    refine Ev.run (c' := (14, [.ref a, .int (I r), .int v], [.ref a], h)) hM_56 1 rfl ?_
    refine Ev.gfr hM_56 rfl h1 rfl ?_
    refine Ev.run (c' := (19, [.ref a, .int (I r), .int v], [.int v, .int (I r), .ref (b + 1)], h)) hM_56 2 rfl ?_
    refine Ev.iast hM_56 rfl h2 (inb_I hc (by omega)) (h' := h') (by rw [I_clamp hr, ← rp_in hc]; exact hh) ?_
    exact Ev.fin hM_56 rfl rfl
  · refine Ev.icT hM_56 rfl (cI_geT (fun z => hc ((I_lt hr (by omega)).mp z))) ?_
    have e : rp n f r v = f := by simp [rp, hc]
    rw [e, set_self h2] at hh
    subst hh
    exact Ev.fin hM_56 rfl rfl
theorem ra_step {n j : Nat} {f : Nat → Int32} {v : Int32} (hj : j < n) : upd (fun i => if i < j then v else f i) j v = fun i => if i < j + 1 then v else f i := by
  funext i
  rw [upd_ap]
  by_cases h1 : i = j
  · subst h1; simp
  · rw [if_neg h1]
    by_cases h2 : i < j
    · rw [if_pos h2, if_pos (by omega)]
    · rw [if_neg h2, if_neg (by omega)]
theorem row_putAll {d a b n : Nat} {f : Nat → Int32} {v : Int32} {h h' : AH} (h1 : h.2[a]? = some (.inr (5, [.ref (b + 1)]))) (h2 : h.2[b + 1]? = some (.inl (n, .inl f))) (hn : n ≤ 2147483647) (hab : a ≠ b + 1) (hh : ((h.1, h.2.set (b + 1) (.inl (n, .inl (ra n f v)))) : AH) = h') : Ev d 57 (ent0 57 [.ref a, .int v] h) (.inl none, h') := by
  have hlt : b + 1 < h.2.length := (List.getElem?_eq_some_iff.mp h2).1
  have key : ∀ (m j : Nat), j + m = n → Ev d 57 (2, [.ref a, .int v, .int (I j)], [], (h.1, h.2.set (b + 1) (.inl (n, .inl (fun i => if i < j then v else f i))))) (.inl none, h') := by
    intro m
    induction m with
    | zero =>
      intro j hj
      have hj' : j = n := by omega
      subst hj'
      refine Ev.run (c' := (4, [.ref a, .int v, .int (I j)], [.ref a, .int (I j)], _)) hM_57 2 rfl ?_
      refine Ev.gfr hM_57 rfl (by rw [List.getElem?_set_ne (Ne.symm hab)]; exact h1) rfl ?_
      refine Ev.len hM_57 rfl (by rw [List.getElem?_set_self hlt]) ?_
      refine Ev.icT hM_57 rfl (cI_geT (fun z => Nat.lt_irrefl _ ((I_lt (by omega) (by omega)).mp z))) ?_
      rw [show (fun i => if i < j then v else f i) = ra j f v from rfl, hh]
      exact Ev.fin hM_57 rfl rfl
    | succ m ih =>
      intro j hj
      refine Ev.run (c' := (4, [.ref a, .int v, .int (I j)], [.ref a, .int (I j)], _)) hM_57 2 rfl ?_
      refine Ev.gfr hM_57 rfl (by rw [List.getElem?_set_ne (Ne.symm hab)]; exact h1) rfl ?_
      refine Ev.len hM_57 rfl (by rw [List.getElem?_set_self hlt]) ?_
      refine Ev.icF hM_57 rfl (cI_geF ((I_lt (by omega) (by omega)).mpr (by omega))) ?_
      refine Ev.run (c' := (12, [.ref a, .int v, .int (I j)], [.ref a], _)) hM_57 1 rfl ?_
      refine Ev.gfr hM_57 rfl (by rw [List.getElem?_set_ne (Ne.symm hab)]; exact h1) rfl ?_
      refine Ev.run (c' := (17, [.ref a, .int v, .int (I j)], [.int v, .int (I j), .ref (b + 1)], _)) hM_57 2 rfl ?_
      refine Ev.iast hM_57 rfl (by rw [List.getElem?_set_self hlt]) (inb_I (show j < n by omega) (by omega)) (h' := (h.1, h.2.set (b + 1) (.inl (n, .inl (fun i => if i < j + 1 then v else f i))))) (by rw [I_clamp (by omega), ra_step (show j < n by omega), List.set_set]) ?_
      refine Ev.run (c' := (2, [.ref a, .int v, .int (I j + 1)], [], _)) hM_57 2 rfl ?_
      rw [show (1 : Int32) = I 1 from rfl, I_add]
      exact ih (j + 1) (by omega)
  refine Ev.run (c' := (2, [.ref a, .int v, .int (I 0)], [], h)) hM_57 2 rfl ?_
  have := key n 0 (by omega)
  rw [show (fun i => if i < 0 then v else f i) = f from by funext i; simp, set_self h2] at this
  exact this
theorem hM_43 : mAt 43 = some km_X4_nextTo := rfl
theorem nextTo_spec {E : Nat × (Nat → Int32)} {w : Wd} {d r : Nat} (hd : 2 ≤ d) (hr : r < 2147483648) : Ev (d - 1) 43 (ent0 43 [.ref 2, .int (I r)] (hp E w)) (.inl (some (.int (rv 9 (gA w 0) r))), hp E w) := by
  refine Ev.run (c' := (5, [.ref 2, .int (I r)], [.int (I r), .ref 3], hp E w)) hM_43 3 rfl ?_
  refine Ev.callR (by omega) hM_43 rfl (y := 55) (as := [.ref 3, .int (I r)]) (rest := []) rfl (by decide) (row_at (a := 3) (b := 4) (n := 9) rfl rfl (by decide) hr) ?_
  exact Ev.fin hM_43 rfl rfl
/-- LOOPS -/
def fl {α : Type} (f : Nat → α → α) : Nat → α → α
  | 0, a => a
  | n + 1, a => f n (fl f n a)
theorem loop_up {α : Type} {d k : Nat} {o : Ou} (P : Nat → α → Cf) (f : Nat → α → α) (n : Nat) (a0 : α) (step : ∀ j, j < n → Ev d k (P (j + 1) (f j (fl f j a0))) o → Ev d k (P j (fl f j a0)) o) (e : Ev d k (P n (fl f n a0)) o) : Ev d k (P 0 a0) o := by
  have key : ∀ m, m ≤ n → Ev d k (P (n - m) (fl f (n - m) a0)) o := by
    intro m
    induction m with
    | zero => intro _; exact e
    | succ m ih =>
      intro hm
      have h1 := ih (by omega)
      have e1 : n - m = (n - (m + 1)) + 1 := by omega
      rw [e1] at h1
      exact step (n - (m + 1)) (by omega) h1
  have := key n (Nat.le_refl _)
  rw [Nat.sub_self] at this
  exact this
/-- a loop whose body may end it: at the first j with c j -/
theorem loop_find {d k : Nat} {o : Ou} (P : Nat → Cf) (c : Nat → Bool) (n : Nat) (hit : ∀ j, j < n → c j = true → (∀ i, i < j → c i = false) → Ev d k (P j) o) (miss : ∀ j, j < n → c j = false → (∀ i, i < j → c i = false) → Ev d k (P (j + 1)) o → Ev d k (P j) o) (e : (∀ i, i < n → c i = false) → Ev d k (P n) o) : Ev d k (P 0) o := by
  have key : ∀ m, m ≤ n → (∀ i, i < n - m → c i = false) → Ev d k (P (n - m)) o := by
    intro m
    induction m with
    | zero => intro _ h; exact e h
    | succ m ih =>
      intro hm h
      have e1 : n - m = (n - (m + 1)) + 1 := by omega
      cases hc : c (n - (m + 1)) with
      | true => exact hit _ (by omega) hc h
      | false =>
        have h1 := ih (by omega) (fun i hi => by
          by_cases hi' : i = n - (m + 1)
          · rw [hi']; exact hc
          · exact h i (by omega))
        rw [e1] at h1
        exact miss _ (by omega) hc h h1
  have := key n (Nat.le_refl _) (fun i hi => by omega)
  rw [Nat.sub_self] at this
  exact this
end
