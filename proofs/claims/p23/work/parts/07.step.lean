/-! ONE STEP: the abstract machine's, and the machine's. -/
section
theorem inTG {ws : List Jvm.Cond} (h1 : ∀ w ∈ ws, w ∈ lw_tbl) (h2 : ws.all goodWord = true) : ∀ w ∈ ws, w ∈ TG := fun w h => List.mem_filter.mpr ⟨h1 w h, List.all_eq_true.mp h2 w h⟩
theorem cls_ok (ci : Nat) (h : ci < 7) : ∃ (C : String) (T : u_T) (N : Nat), vwCl[ci]? = some (C, T, N) ∧ (∀ w ∈ u_ws C T N, w ∈ TG) ∧ (∀ k, k < N → parseFieldDescriptor (T k).2.2.1 = some (tyT ci k)) ∧ (∀ a, a < N → ∀ b, b < N → a ≠ b → (T a).2.1 ≠ (T b).2.1) ∧ (dfl ci).length = N ∧ ∀ j, j < N → defaultValue (tyT ci j) = vp_V (dfl ci) j := by
  match ci, h with
  | 0, _ => exact ⟨_, _, _, rfl, inTG in_X0 (by decide +kernel), tyX0_ok, nmX0, rfl, by decide⟩
  | 1, _ => exact ⟨_, _, _, rfl, inTG in_X1 (by decide +kernel), tyX1_ok, nmX1, rfl, by decide⟩
  | 2, _ => exact ⟨_, _, _, rfl, inTG in_X2 (by decide +kernel), tyX2_ok, nmX2, rfl, by decide⟩
  | 3, _ => exact ⟨_, _, _, rfl, inTG in_X3 (by decide +kernel), tyX3_ok, nmX3, rfl, by decide⟩
  | 4, _ => exact ⟨_, _, _, rfl, inTG in_X4 (by decide +kernel), tyX4_ok, nmX4, rfl, by decide⟩
  | 5, _ => exact ⟨_, _, _, rfl, inTG in_X6 (by decide +kernel), tyX6_ok, nmX6, rfl, by decide⟩
  | 6, _ => exact ⟨_, _, _, rfl, inTG in_X7 (by decide +kernel), tyX7_ok, nmX7, rfl, by decide⟩
/-- what a frame's start gives: classes, strings, statics, the script -/
def EnvS (dC : Nat → ClassId) (dI : Nat → Nat → Nat) (cI cJ : ClassId) (bs ba Ls : Nat) (xs : Nat → Int32) (sa : Nat → Nat) (U : State) : Prop :=
  va_K (dC, dI) vwCl [(cI, .int)] U ∧ va_X bs Ls xs U U.heap ∧ bs < ba ∧ ba ≤ U.heap.size ∧
  vx_Zq Bundle.tN "UNASSIGNED_STACK" Bundle.steD (fun q => ba ≤ q) U U.heap ∧ vx_Zq Bundle.tN "SUPPRESSED_SENTINEL" Bundle.listD (fun q => ba ≤ q) U U.heap ∧
  (∀ q ∈ txts, vk_R "Coppinghouse" q.1 q.2 (sa q.1) U) ∧ (∀ w ∈ NG, w.before #[] U = true) ∧ True
theorem ng_moved {w : Jvm.Cond} (hw : w ∈ NG) {s U : State} (hvm : s.vm.Alike U.vm) {A A' : Array Value} (h : w.before A s = true) : w.before A' U = true := by
  have h1 := (List.mem_filter.mp hw).2
  simp only [Bool.and_eq_true] at h1
  have h2 := Cond.faceAtom_setVm (args := A) hvm w h1.1 h
  exact va_tabs (A := A) (u := s.setVm U.vm) h1.2 rfl h2
theorem EnvS.moved {dC : Nat → ClassId} {dI : Nat → Nat → Nat} {cI cJ : ClassId} {bs ba Ls : Nat} {xs : Nat → Int32} {sa : Nat → Nat} {s U : State} (h : EnvS dC dI cI cJ bs ba Ls xs sa s) (hW : s.WarmedH U.vm) (h1 : s.heap.size ≤ U.heap.size) (h2 : ∀ q : Nat, q < s.heap.size → ¬ (ba ≤ q) → U.heap[q]? = s.heap[q]?) : EnvS dC dI cI cJ bs ba Ls xs sa U := by
  obtain ⟨a1, a2, a3, a4, a5, a6, a7, a8, a9⟩ := h
  have hal := hW.alike
  refine ⟨va_K.moved hal a1, (a2.moved hal).kept (h2 bs (by omega) (by omega)), a3, Nat.le_trans a4 h1, (vx_Zq.moved hal a5).kept h2, (vx_Zq.moved hal a6).kept h2, fun q hq => vk_R.warm hW (a7 q hq), fun w hw => ng_moved hw hal (a8 w hw), trivial⟩
/-- what stands still in a frame of method M -/
def SndC (dC : Nat → ClassId) (dI : Nat → Nat → Nat) (cI cJ : ClassId) (bs ba Ls : Nat) (xs : Nat → Int32) (sa : Nat → Nat) (dd : Nat) (p : Program) (R : Room) (s : State) (m : MethodId) (args : Array Value) (meth : Method) (c : Code) (M : Mt) : Prop :=
  p.tables.exec = Jvm.exec ∧ c.code = M.2.1 ∧ c.maxLocals = M.2.2.1 ∧ meth.sig.returnType = M.2.2.2.1 ∧ s.vm.findClass M.2.2.2.2.2.1 = some m.cls ∧ meth.locks = false ∧ meth.name = M.1.name ∧ c.exceptionTable.toList = tableOf M.2.2.2.2.1 ∧ (∀ w ∈ TG, w.before args s = true) ∧ EnvS dC dI cI cJ bs ba Ls xs sa s ∧ dd + 2 ≤ R.frames ∧ 39 * dd + 33 ≤ R.locals
/-- what moves -/
def SndS (dC : Nat → ClassId) (dI : Nat → Nat → Nat) (cI cJ : ClassId) (bs ba Ls : Nat) (xs : Nat → Int32) (s : State) (nL n0 z0 : Nat) (h : AH) (L : List Value) (H : Heap) (locs : List Loc) (cells slots : Nat) (ls : Array Slot) : Prop :=
  CorH dC dI cI cJ bs ba Ls xs h H ∧ va_S (fun q => ba ≤ q) s.heap H locs ∧ lcs bs ba L ls nL ∧ cells + n0 = cnt h ∧ slots + z0 = slt h ∧ (h.1 = 0 → s.heap.size + cells + 1 = ba + h.2.length)
theorem bin_inv {pc : Nat} {L S : List Value} {h : AH} {f : Int32 → Int32 → Int32} {c' : Cf} (hs : bin pc L S h f = some c') : ∃ x y S', S = .int y :: .int x :: S' ∧ c' = (pc, L, .int (f x y) :: S', h) := by
  unfold bin at hs
  split at hs
  · rename_i y x S'
    exact ⟨x, y, S', rfl, (Option.some.inj hs).symm⟩
  · cases hs
theorem ldi_inv {pc k : Nat} {L S : List Value} {h : AH} {c' : Cf} (hs : psh pc L S h (ldi L k) = some c') : ∃ x, L[k]? = some (.int x) ∧ c' = (pc, L, .int x :: S, h) := by
  unfold ldi at hs
  split at hs
  · rename_i a e
    exact ⟨a, e, (Option.some.inj hs).symm⟩
  · cases hs
theorem lda_inv {pc k : Nat} {L S : List Value} {h : AH} {c' : Cf} (hs : psh pc L S h (lda L k) = some c') : ∃ x, L[k]? = some (.ref x) ∧ c' = (pc, L, .ref x :: S, h) := by
  unfold lda at hs
  split at hs
  · rename_i a e
    exact ⟨a, e, (Option.some.inj hs).symm⟩
  · cases hs
theorem sti_inv {pc k : Nat} {L S : List Value} {h : AH} {c' : Cf} (hs : sti pc k L S h = some c') : ∃ x S', S = .int x :: S' ∧ k < L.length ∧ c' = (pc, L.set k (.int x), S', h) := by
  unfold sti at hs
  split at hs
  · rename_i x S'
    cases hb : Nat.blt k L.length with
    | true =>
      rw [hb] at hs
      exact ⟨x, S', rfl, Nat.blt_eq.mp hb, (Option.some.inj hs).symm⟩
    | false => rw [hb] at hs; cases hs
  · cases hs
theorem sta_inv {pc k : Nat} {L S : List Value} {h : AH} {c' : Cf} (hs : sta pc k L S h = some c') : ∃ x S', S = .ref x :: S' ∧ k < L.length ∧ c' = (pc, L.set k (.ref x), S', h) := by
  unfold sta at hs
  split at hs
  · rename_i x S'
    cases hb : Nat.blt k L.length with
    | true =>
      rw [hb] at hs
      exact ⟨x, S', rfl, Nat.blt_eq.mp hb, (Option.some.inj hs).symm⟩
    | false => rw [hb] at hs; cases hs
  · cases hs
theorem noJ_i {x : Int32} : ∀ p, Value.int x ≠ .retAddr p := fun _ h => by cases h
theorem noJ_r {x : Nat} : ∀ p, Value.ref x ≠ .retAddr p := fun _ h => by cases h
theorem SndS.put {dC : Nat → ClassId} {dI : Nat → Nat → Nat} {cI cJ : ClassId} {bs ba Ls : Nat} {xs : Nat → Int32} {s : State} {nL n0 z0 : Nat} {h : AH} {L : List Value} {H : Heap} {locs : List Loc} {cells slots : Nat} {ls ls' : Array Slot} {i : Nat} {v : Value}
    (X : SndS dC dI cI cJ bs ba Ls xs s nL n0 z0 h L H locs cells slots ls) (hv : v.category = 1)
    (h' : lv_has ls' nL ((i, vmp bs ba v) :: (prsF bs ba 0 L).filter (fun q => !(q.1 == i) && !(q.1 + 1 == i && q.2.category == 2)))) : SndS dC dI cI cJ bs ba Ls xs s nL n0 z0 h (L.set i v) H locs cells slots ls' := by
  obtain ⟨x1, x2, x3, x4, x5, x6⟩ := X
  exact ⟨x1, x2, x3.put hv (Or.inl rfl) h', x4, x5, x6⟩
section
variable {dC : Nat → ClassId} {dI : Nat → Nat → Nat} {cI cJ : ClassId} {bs ba Ls : Nat} {xs : Nat → Int32} {sa : Nat → Nat} {dd : Nat} {p : Program} {l : Launch} {e : Env} {R : Room} {s : State} {m : MethodId} {args : Array Value} {below : List Frame} {meth : Method} {c : Code}
variable {H : Heap} {locs : List Loc} {cells slots n0 z0 : Nat} {ls : Array Slot} {Q : State → Prop} {h : AH} {L S : List Value} {M : Mt} {pc : Nat}
theorem CorH.of {h : AH} {H : Heap} {t : List AO} (h1 : h.2 = .inl (Ls, .inl xs) :: t) (h2 : va_P (dC, dI) vwCl (wsF cI cJ bs ba ba t) H) (h3 : ba ≤ H.size) : CorH dC dI cI cJ bs ba Ls xs h H := by
  refine ⟨t, h1, h2, ?_⟩
  cases ht : t.length with
  | zero => exact h3
  | succ n =>
    have hn : n < t.length := by omega
    have := (h2 n (ba + n, ent cI cJ bs ba t[n]) (by rw [wsF_get, List.getElem?_eq_getElem hn]; rfl)).lt
    have h9 : ba + n < H.size := this
    omega
/-- a place that is no script -/
theorem CorH.at {a : Nat} {o : AO} (hC : CorH dC dI cI cJ bs ba Ls xs h H) (ha : h.2[a]? = some o) : (a = 0 ∧ o = .inl (Ls, .inl xs)) ∨ ∃ t j, a = j + 1 ∧ h.2 = .inl (Ls, .inl xs) :: t ∧ t[j]? = some o ∧ va_P (dC, dI) vwCl (wsF cI cJ bs ba ba t) H ∧ (wsF cI cJ bs ba ba t)[j]? = some (ba + j, ent cI cJ bs ba o) := by
  obtain ⟨t, h1, h2, -⟩ := hC
  cases a with
  | zero =>
    rw [h1] at ha
    cases ha
    exact Or.inl ⟨rfl, rfl⟩
  | succ j =>
    rw [h1] at ha
    have ha' : t[j]? = some o := ha
    exact Or.inr ⟨t, j, rfl, h1, ha', h2, by rw [wsF_get, ha']; rfl⟩
/-- one thing changed, its size as before -/
theorem SndS.set {o o1 : AO} {t : List AO} {j : Nat} {H1 : Heap} {locs1 : List Loc} {nL : Nat} (X : SndS dC dI cI cJ bs ba Ls xs s nL n0 z0 h L H locs cells slots ls) (hbs : ba ≤ s.heap.size) (h1 : h.2 = .inl (Ls, .inl xs) :: t) (hj : t[j]? = some o) (hz : osz o = osz o1)
    (hP : va_P (dC, dI) vwCl ((wsF cI cJ bs ba ba t).set j (ba + j, ent cI cJ bs ba o1)) H1) (hS : va_S (fun q => ba ≤ q) s.heap H1 locs1) : SndS dC dI cI cJ bs ba Ls xs s nL n0 z0 (h.1, h.2.set (j + 1) o1) L H1 locs1 cells slots ls := by
  obtain ⟨x1, x2, x3, x4, x5, x6⟩ := X
  have e : h.2.set (j + 1) o1 = .inl (Ls, .inl xs) :: t.set j o1 := by rw [h1]; rfl
  refine ⟨CorH.of (t := t.set j o1) e (by rw [wsF_set]; exact hP) (Nat.le_trans hbs hS.1), hS, x3, ?_, ?_, ?_⟩
  · rw [x4]; simp [cnt]
  · rw [x5]
    have hm : (t.set j o1).map osz = t.map osz := by
      rw [List.map_set, ← hz]
      apply List.ext_getElem?
      intro k
      rw [List.getElem?_set]
      by_cases hk : j = k
      · subst hk
        have hlt : j < t.length := (List.getElem?_eq_some_iff.mp hj).1
        obtain ⟨_, e9⟩ := List.getElem?_eq_some_iff.mp hj
        simp [hlt, e9]
      · simp [hk]
    simp only [slt]
    rw [e, h1, List.map_cons, List.map_cons, hm]
  · intro h0
    have := x6 h0
    simpa using this
def AO_o (x1 : Nat) : AO := .inr (x1, dfl x1)
theorem dfl_map (ci : Nat) : (dfl ci).map (vmp bs ba) = dfl ci := by
  unfold dfl
  split <;> rfl
theorem cat_sum (bs ba : Nat) : ∀ S' : List Value, ((S'.map (vmp bs ba)).map fun v => v.category).sum ≤ 2 * S'.length
  | [] => by simp
  | v :: t => by
    have ih := cat_sum bs ba t
    have : (vmp bs ba v).category ≤ 2 := by cases v <;> simp [vmp, Value.category]
    simp only [List.map_cons, List.sum_cons, List.length_cons]
    omega
theorem inb_in {i : Int32} {n : Nat} (h : inb i n = true) : vp_in i n := by
  unfold inb at h
  have h2 := of_decide_eq_true h
  exact h2
theorem nat_and {a b : Bool} (h : (a && b) = true) : a = true ∧ b = true := by simpa using h
theorem wnew {c' : Cf} {x1 x2 x3 n : Nat} {idx : Nat} (hx : p.tables.exec = Jvm.exec) (hb : c.code = M.2.1) (hown : s.vm.findClass M.2.2.2.2.2.1 = some m.cls) (hts : ∀ w ∈ TG, w.before args s = true) (hE : EnvS dC dI cI cJ bs ba Ls xs sa s) (hd : decode M.2.1 pc = .ok (.new idx, 3)) (hwt : ∀ w ∈ rwd M (.new idx, n, x1, x2, x3), w.before args s = true) (hs : stp pc (.new idx, n, x1, x2, x3) L S h = some c') (X : SndS dC dI cI cJ bs ba Ls xs s M.2.2.1 n0 z0 h L H locs cells slots ls)
    (hc : cnt c'.2.2.2 ≤ R.cells + n0) (hz : slt c'.2.2.2 ≤ R.slots + z0)
    (kk : ∀ H' locs' cells' slots' ls', SndS dC dI cI cJ bs ba Ls xs s M.2.2.1 n0 z0 c'.2.2.2 c'.2.1 H' locs' cells' slots' ls' → W p l e R s m args below meth c H' locs' cells' slots' Q (F0 m c'.1 ls' (c'.2.2.1.map (vmp bs ba)))) :
    W p l e R s m args below meth c H locs cells slots Q (F0 m pc ls (S.map (vmp bs ba))) := by
  have hE' := hE
  obtain ⟨hK, hX, hbs, hba, -⟩ := hE'
  have X' := X
  obtain ⟨hC, hS, hL, hcc, hsl, hex0⟩ := X'
  simp only [stp] at hs
  split at hs
  · rename_i hcond
    cases hs
    obtain ⟨h8, h0⟩ := nat_and hcond
    have h8' : x1 < 7 := Nat.blt_eq.mp h8
    have h00 : h.1 = 0 := Nat.eq_of_beq_eq_true h0
    obtain ⟨C, T, N, hcl, hin, hty, hnmm, hdl, hdf⟩ := cls_ok x1 h8'
    have hCe : fC x1 = C := by simp [fC, hcl]
    have hNe : fN x1 = N := by simp [fN, hcl]
    have w1 := hwt (.classLink M.2.2.2.2.2.1 idx (fC x1)) (by simp [rwd, h8'])
    have w2 := hwt (.instantiable (fC x1) (fN x1)) (by simp [rwd, h8'])
    have w3 := hwt (.initialized (fC x1)) (by simp [rwd, h8'])
    rw [hCe] at w1 w2 w3
    rw [hNe] at w2
    obtain ⟨t, h1, h2, h3⟩ := hC
    have hlen : h.2.length = t.length + 1 := by rw [h1]; rfl
    have hKn := hK.1 x1 _ hcl
    simp only [cnt, List.length_append, List.length_singleton] at hc hcc
    have hsz : ((h.2 ++ [AO_o x1]).map osz).sum = (h.2.map osz).sum + N := by
      rw [List.map_append, List.sum_append]
      simp [AO_o, osz, hdl]
    have hz' : 6 * h.1 + ((h.2.map osz).sum + N) ≤ R.slots + z0 := by rw [← hsz]; exact hz
    have hsl' : slots + z0 = 6 * h.1 + (h.2.map osz).sum := hsl
    intro T0 hT0 X0
    have hq := X0.heapSize
    rw [hT0] at hq
    have hq2 := hex0 h00
    have hH : H.size = ba + t.length := by omega
    refine W.newcK (g := F0 m pc ls (S.map (vmp bs ba))) (cC := dC x1) hx hb hown w1 w2 w3 rfl hd (by omega) (by omega) hKn.2.1 hH (fun H1 kC hkC e1 z1 o1 => ?_) T0 hT0 X0
    have hk9 : ∀ (k : Nat) (x : Nat × va_E), (wsF cI cJ bs ba ba t)[k]? = some x → H1[x.1]? = H[x.1]? := fun k x hx => o1 x.1 (by rw [← hH]; exact (h2 k x hx).lt)
    have hP1 : va_P (dC, dI) vwCl (wsF cI cJ bs ba ba (t ++ [AO_o x1])) H1 := by
      rw [wsF_app]
      refine (h2.kept hk9).app (fun k x hx => ?_)
      have hz : k < 1 := (List.getElem?_eq_some_iff.mp hx).1
      rw [show k = 0 by omega] at hx
      cases hx
      refine ⟨_, hcl, (u_born (tyT x1) hts hin hKn hkC e1 hty).to (fun j hj => (hdf j hj).trans ?_)⟩
      show vp_V (dfl x1) j = vp_V ((dfl x1).map (vmp bs ba)) j
      rw [dfl_map]
    have hsn : SndS dC dI cI cJ bs ba Ls xs s M.2.2.1 n0 z0 (h.1, h.2 ++ [AO_o x1]) L H1 locs (cells + 1) (slots + N) ls := by
      refine ⟨CorH.of (t := t ++ [AO_o x1]) (by rw [h1]; rfl) hP1 (by omega), ⟨by have := hS.1; omega, fun q h5 h6 => (o1 q (by have := hS.1; omega)).trans (hS.2.1 q h5 h6), hS.2.2⟩, hL, ?_, ?_, ?_⟩
      · simp only [cnt, List.length_append, List.length_singleton]; omega
      · show slots + N + z0 = 6 * h.1 + ((h.2 ++ [AO_o x1]).map osz).sum
        rw [hsz]; omega
      · intro _
        simp only [List.length_append, List.length_singleton]; omega
    have hk := kk H1 locs (cells + 1) (slots + N) ls hsn
    show W p l e R s m args below meth c H1 locs (cells + 1) (slots + N) Q (F0 m (pc + 3) ls (.ref (ba + t.length) :: S.map (vmp bs ba)))
    have he : (vmp bs ba (.ref h.2.length)) = .ref (ba + t.length) := by rw [hlen]; rfl
    rw [← he]
    exact hk
  · cases hs
theorem wnewa {c' : Cf} {x1 x2 x3 n : Nat} {ty : ArrayType} (hx : p.tables.exec = Jvm.exec) (hb : c.code = M.2.1) (hown : s.vm.findClass M.2.2.2.2.2.1 = some m.cls) (hts : ∀ w ∈ TG, w.before args s = true) (hE : EnvS dC dI cI cJ bs ba Ls xs sa s) (hd : decode M.2.1 pc = .ok (.newarray ty, 2)) (hwt : ∀ w ∈ rwd M (.newarray ty, n, x1, x2, x3), w.before args s = true) (hs : stp pc (.newarray ty, n, x1, x2, x3) L S h = some c') (X : SndS dC dI cI cJ bs ba Ls xs s M.2.2.1 n0 z0 h L H locs cells slots ls)
    (hc : cnt c'.2.2.2 ≤ R.cells + n0) (hz : slt c'.2.2.2 ≤ R.slots + z0)
    (kk : ∀ H' locs' cells' slots' ls', SndS dC dI cI cJ bs ba Ls xs s M.2.2.1 n0 z0 c'.2.2.2 c'.2.1 H' locs' cells' slots' ls' → W p l e R s m args below meth c H' locs' cells' slots' Q (F0 m c'.1 ls' (c'.2.2.1.map (vmp bs ba)))) :
    W p l e R s m args below meth c H locs cells slots Q (F0 m pc ls (S.map (vmp bs ba))) := by
  have hE' := hE
  obtain ⟨hK, hX, hbs, hba, -⟩ := hE'
  have X' := X
  obtain ⟨hC, hS, hL, hcc, hsl, hex0⟩ := X'
  simp only [stp] at hs
  split at hs
  · rename_i n1 S'
    split at hs
    · rename_i hcond
      obtain ⟨h0, hcond⟩ := nat_and hcond
      obtain ⟨hn0, hn5⟩ := nat_and hcond
      have h00 : h.1 = 0 := Nat.eq_of_beq_eq_true h0
      have hneg : ¬ n1 < 0 := of_decide_eq_true hn0
      have hle : n1.toNatClampNeg ≤ 5000 := Nat.le_of_ble_eq_true hn5
      have w1 := hwt (.arrayClass (newarray.typeOf ty)) (by simp [rwd])
      obtain ⟨t, h1, h2, h3⟩ := hC
      have hlen : h.2.length = t.length + 1 := by rw [h1]; rfl
      have hsl' : slots + z0 = 6 * h.1 + (h.2.map osz).sum := hsl
      have key : ∀ (o : AO) (cA : ClassId) (fty : FieldType), (cA, fty) = (cI, .int) → newarray.typeOf ty = fty → osz o = n1.toNatClampNeg →
          (∀ H1 : Heap, H1[ba + t.length]? = some (arrV cA n1.toNatClampNeg (fun _ => defaultValue fty)) → va_at (dC, dI) vwCl (ba + t.length, ent cI cJ bs ba o) H1) → s.vm.findClass ("[" ++ fty.toString) = some cA → n1.toNatClampNeg * componentBytes fty ≤ 536870912 →
          c' = (pc + 2, L, .ref h.2.length :: S', (h.1, h.2 ++ [o])) → W p l e R s m args below meth c H locs cells slots Q (F0 m pc ls (.int n1 :: S'.map (vmp bs ba))) := by
        intro o cA fty hcA hfty hosz hat hnmA hby hc'
        subst hc'
        subst hfty
        simp only [cnt, List.length_append, List.length_singleton] at hc hcc
        have hsz : ((h.2 ++ [o]).map osz).sum = (h.2.map osz).sum + n1.toNatClampNeg := by
          rw [List.map_append, List.sum_append]
          simp [hosz]
        have hz' : 6 * h.1 + ((h.2.map osz).sum + n1.toNatClampNeg) ≤ R.slots + z0 := by rw [← hsz]; exact hz
        intro T0 hT0 X0
        have hq := X0.heapSize
        rw [hT0] at hq
        have hq2 := hex0 h00
        have hH : H.size = ba + t.length := by omega
        refine va_newaK hx hb w1 (g := F0 m pc ls (.int n1 :: S'.map (vmp bs ba))) rfl hd rfl hneg rfl hby (by omega) (by omega) hH (fun H1 cB e1 z1 o1 hAr hNm => ?_) T0 hT0 X0
        have hcB : cB = cA := Option.some.inj (hNm.symm.trans hnmA)
        subst hcB
        have hk9 : ∀ (k : Nat) (x : Nat × va_E), (wsF cI cJ bs ba ba t)[k]? = some x → H1[x.1]? = H[x.1]? := fun k x hx => o1 x.1 (by rw [← hH]; exact (h2 k x hx).lt)
        have hP1 : va_P (dC, dI) vwCl (wsF cI cJ bs ba ba (t ++ [o])) H1 := by
          rw [wsF_app]
          refine (h2.kept hk9).app (fun k x hx => ?_)
          have hz : k < 1 := (List.getElem?_eq_some_iff.mp hx).1
          rw [show k = 0 by omega] at hx
          cases hx
          exact hat H1 e1
        have hsn : SndS dC dI cI cJ bs ba Ls xs s M.2.2.1 n0 z0 (h.1, h.2 ++ [o]) L H1 locs (cells + 1) (slots + n1.toNatClampNeg) ls := by
          refine ⟨CorH.of (t := t ++ [o]) (by rw [h1]; rfl) hP1 (by omega), ⟨by have := hS.1; omega, fun q h5 h6 => (o1 q (by have := hS.1; omega)).trans (hS.2.1 q h5 h6), hS.2.2⟩, hL, ?_, ?_, ?_⟩
          · simp only [cnt, List.length_append, List.length_singleton]; omega
          · show slots + n1.toNatClampNeg + z0 = 6 * h.1 + ((h.2 ++ [o]).map osz).sum
            rw [hsz]; omega
          · intro _
            simp only [List.length_append, List.length_singleton]; omega
        have hk := kk H1 locs (cells + 1) (slots + n1.toNatClampNeg) ls hsn
        show W p l e R s m args below meth c H1 locs (cells + 1) (slots + n1.toNatClampNeg) Q (F0 m (pc + 2) ls (.ref (ba + t.length) :: S'.map (vmp bs ba)))
        have he : (vmp bs ba (.ref h.2.length)) = .ref (ba + t.length) := by rw [hlen]; rfl
        rw [← he]
        exact hk
      have kI := hK.2 0 (cI, .int) rfl
      cases ty <;> first | (cases hs; done) | skip
      · cases hs
        exact key (.inl (n1.toNatClampNeg, .inl fun _ => 0)) cI .int rfl rfl rfl (fun H1 e1 => e1) kI.2 (by show n1.toNatClampNeg * 4 ≤ _; omega) rfl
    · cases hs
  · cases hs
/-- ONE STEP -/
theorem wstep {r : Rw} {c' : Cf} (F : SndC dC dI cI cJ bs ba Ls xs sa dd p R s m args meth c M) (hr9 : rok M pc r = true) (hw : ∀ w ∈ rwd M r, w ∈ TG) (hs : stp pc r L S h = some c') (X : SndS dC dI cI cJ bs ba Ls xs s M.2.2.1 n0 z0 h L H locs cells slots ls)
    (hc : cnt c'.2.2.2 ≤ R.cells + n0) (hz : slt c'.2.2.2 ≤ R.slots + z0)
    (kk : ∀ H' locs' cells' slots' ls', SndS dC dI cI cJ bs ba Ls xs s M.2.2.1 n0 z0 c'.2.2.2 c'.2.1 H' locs' cells' slots' ls' → W p l e R s m args below meth c H' locs' cells' slots' Q (F0 m c'.1 ls' (c'.2.2.1.map (vmp bs ba)))) :
    W p l e R s m args below meth c H locs cells slots Q (F0 m pc ls (S.map (vmp bs ba))) := by
  obtain ⟨hx, hb, hml, hret, hown, hlk, hnm, hex, hts, hE, hfr, hlo⟩ := F
  have hE' := hE
  obtain ⟨hK, hX, hbs, hba, -⟩ := hE'
  have X' := X
  obtain ⟨hC, hS, hL, hcc, hsl, hex0⟩ := X'
  obtain ⟨i, n, x1, x2, x3⟩ := r
  unfold rok at hr9
  obtain ⟨hd0, hr⟩ := nat_and hr9
  clear hr9
  have hd : decode M.2.1 pc = .ok (i, ilen i n) := of_decide_eq_true hd0
  have hwt : ∀ w ∈ rwd M (i, n, x1, x2, x3), w.before args s = true := fun w hh => hts w (hw w hh)
  have hLl : L.length = M.2.2.1 := hL.1
  cases i
  case aload_n k =>
    obtain ⟨x, e1, rfl⟩ := lda_inv hs
    exact lv_aload_n hx hb hd rfl (hL.get e1 noJ_r) (kk _ _ _ _ _ X)
  case aload k =>
    obtain ⟨x, e1, rfl⟩ := lda_inv hs
    exact lv_aload hx hb hd (hL.get e1 noJ_r) (kk _ _ _ _ _ X)
  case iload_n k =>
    obtain ⟨x, e1, rfl⟩ := ldi_inv hs
    exact lv_iload_n hx hb hd rfl (hL.get e1 noJ_i) (kk _ _ _ _ _ X)
  case iload k =>
    obtain ⟨x, e1, rfl⟩ := ldi_inv hs
    exact lv_iload hx hb hd (hL.get e1 noJ_i) (kk _ _ _ _ _ X)
  case istore_n k =>
    obtain ⟨x, S', rfl, hk, rfl⟩ := sti_inv hs
    exact lv_istore_n hx hb hd rfl hL.2.1 (hLl ▸ hk) rfl (fun ls' hl' => kk _ _ _ _ _ (X.put rfl hl'))
  case istore k =>
    obtain ⟨x, S', rfl, hk, rfl⟩ := sti_inv hs
    exact lv_istore hx hb hd hL.2.1 (hLl ▸ hk) rfl (fun ls' hl' => kk _ _ _ _ _ (X.put rfl hl'))
  case astore_n k =>
    obtain ⟨x, S', rfl, hk, rfl⟩ := sta_inv hs
    exact lv_astore_n hx hb hd rfl hL.2.1 (hLl ▸ hk) rfl (fun ls' hl' => kk _ _ _ _ _ (X.put rfl hl'))
  case astore k =>
    obtain ⟨x, S', rfl, hk, rfl⟩ := sta_inv hs
    exact lv_astore hx hb hd hL.2.1 (hLl ▸ hk) rfl (fun ls' hl' => kk _ _ _ _ _ (X.put rfl hl'))
  case iconst k =>
    cases hs
    exact lv_iconst hx hb hd rfl (kk _ _ _ _ _ X)
  case bipush k =>
    cases hs
    exact lv_bipush hx hb hd rfl (kk _ _ _ _ _ X)
  case sipush k =>
    cases hs
    exact lv_sipush hx hb hd rfl (kk _ _ _ _ _ X)
  case lconst k =>
    cases hs
    exact lv_lconst hx hb hd rfl (kk _ _ _ _ _ X)
  case ldc idx =>
    cases x1 with
    | zero => cases hs
    | succ j =>
      cases hs
      exact lv_ldc hx hb hown (hwt _ (by simp [rwd])) hd (kk _ _ _ _ _ X)
  case ldc_w idx =>
    cases x1 with
    | zero => cases hs
    | succ j =>
      cases hs
      exact lv_ldcw hx hb hown (hwt _ (by simp [rwd])) hd (kk _ _ _ _ _ X)
  case iinc k n1 =>
    simp only [stp] at hs
    split at hs
    · rename_i x e1
      cases hs
      obtain ⟨q, hq⟩ := List.getElem?_of_mem ((prsF_mem bs ba L 0 k (.int x)).mpr ⟨k, .int x, e1, noJ_i, by omega, rfl⟩)
      exact lv_iinc hx hb hd hL.2.1 hq rfl (hLl ▸ (List.getElem?_eq_some_iff.mp e1).1) rfl (fun ls' hl' => kk _ _ _ _ _ (X.put rfl hl'))
    · cases hs
  case iadd =>
    obtain ⟨x, y, S', rfl, rfl⟩ := bin_inv hs
    exact lv_iadd hx hb hd (kk _ _ _ _ _ X)
  case isub =>
    obtain ⟨x, y, S', rfl, rfl⟩ := bin_inv hs
    exact lv_isub hx hb hd (kk _ _ _ _ _ X)
  case imul =>
    obtain ⟨x, y, S', rfl, rfl⟩ := bin_inv hs
    exact lv_imul hx hb hd (kk _ _ _ _ _ X)
  case iand =>
    obtain ⟨x, y, S', rfl, rfl⟩ := bin_inv hs
    exact lv_iand hx hb hd (kk _ _ _ _ _ X)
  case ior =>
    obtain ⟨x, y, S', rfl, rfl⟩ := bin_inv hs
    exact lv_ior hx hb hd (kk _ _ _ _ _ X)
  case ixor =>
    obtain ⟨x, y, S', rfl, rfl⟩ := bin_inv hs
    exact lv_ixor hx hb hd (kk _ _ _ _ _ X)
  case ishl =>
    obtain ⟨x, y, S', rfl, rfl⟩ := bin_inv hs
    exact lv_ishl hx hb hd (kk _ _ _ _ _ X)
  case ishr =>
    obtain ⟨x, y, S', rfl, rfl⟩ := bin_inv hs
    exact lv_ishr hx hb hd (kk _ _ _ _ _ X)
  case iushr =>
    obtain ⟨x, y, S', rfl, rfl⟩ := bin_inv hs
    exact lv_iushr hx hb hd rfl (kk _ _ _ _ _ X)
  case idiv =>
    simp only [stp] at hs
    split at hs
    · rename_i y x S'
      cases hy : decide (y = 0) with
      | true => rw [hy] at hs; cases hs
      | false =>
        rw [hy] at hs
        cases hs
        exact lv_idiv hx hb hd (of_decide_eq_false hy) (kk _ _ _ _ _ X)
    · cases hs
  case irem =>
    simp only [stp] at hs
    split at hs
    · rename_i y x S'
      cases hy : decide (y = 0) with
      | true => rw [hy] at hs; cases hs
      | false =>
        rw [hy] at hs
        cases hs
        exact lv_irem hx hb hd (of_decide_eq_false hy) (kk _ _ _ _ _ X)
    · cases hs
  case i2l =>
    simp only [stp] at hs
    split at hs
    · cases hs
      exact lv_i2l hx hb hd rfl (kk _ _ _ _ _ X)
    · cases hs
  case lcmp =>
    simp only [stp] at hs
    split at hs
    · cases hs
      exact W.lcmp hx hb hd (kk _ _ _ _ _ X)
    · cases hs
  case dup =>
    simp only [stp] at hs
    split at hs
    · cases hs
      exact lv_dup hx hb hd rfl (kk _ _ _ _ _ X)
    · cases hs
      exact lv_dup hx hb hd rfl (kk _ _ _ _ _ X)
    · cases hs
  case pop =>
    simp only [stp] at hs
    split at hs
    · cases hs
      exact lv_pop hx hb hd rfl (kk _ _ _ _ _ X)
    · cases hs
      exact lv_pop hx hb hd rfl (kk _ _ _ _ _ X)
    · cases hs
  case goto off =>
    cases hs
    exact lv_goto hx hb hd (of_decide_eq_true hr) (kk _ _ _ _ _ X)
  case ifCond cd off =>
    simp only [stp] at hs
    split at hs
    · rename_i x S'
      cases hs
      have ht : (pc : Int) + off = (x1 : Int) := of_decide_eq_true hr
      have kT : cmpI cd x 0 = true → W p l e R s m args below meth c H locs cells slots Q (F0 m x1 ls (S'.map (vmp bs ba))) := fun hh => by
        have := kk _ _ _ _ _ X
        dsimp only at this
        rw [hh] at this
        exact this
      have kF : cmpI cd x 0 = false → W p l e R s m args below meth c H locs cells slots Q (F0 m (pc + 3) ls (S'.map (vmp bs ba))) := fun hh => by
        have := kk _ _ _ _ _ X
        dsimp only at this
        rw [hh] at this
        exact this
      cases cd
      · exact lv_if_eq hx hb hd ht (fun hh => kT (decide_eq_true hh)) (fun hh => kF (decide_eq_false hh))
      · exact lv_if_ne hx hb hd ht (fun hh => kT (decide_eq_true hh)) (fun hh => kF (decide_eq_false (fun q => q hh)))
      · exact lv_if_lt hx hb hd ht (fun hh => kT (decide_eq_true hh)) (fun hh => kF (decide_eq_false hh))
      · exact lv_if_ge hx hb hd ht (fun hh => kT (decide_eq_true hh)) (fun hh => kF (decide_eq_false hh))
      · exact lv_if_gt hx hb hd ht (fun hh => kT (decide_eq_true hh)) (fun hh => kF (decide_eq_false hh))
      · exact lv_if_le hx hb hd ht (fun hh => kT (decide_eq_true hh)) (fun hh => kF (decide_eq_false hh))
    · cases hs
  case if_icmp cd off =>
    simp only [stp] at hs
    split at hs
    · rename_i y x S'
      cases hs
      have ht : (pc : Int) + off = (x1 : Int) := of_decide_eq_true hr
      have kT : cmpI cd x y = true → W p l e R s m args below meth c H locs cells slots Q (F0 m x1 ls (S'.map (vmp bs ba))) := fun hh => by
        have := kk _ _ _ _ _ X
        dsimp only at this
        rw [hh] at this
        exact this
      have kF : cmpI cd x y = false → W p l e R s m args below meth c H locs cells slots Q (F0 m (pc + 3) ls (S'.map (vmp bs ba))) := fun hh => by
        have := kk _ _ _ _ _ X
        dsimp only at this
        rw [hh] at this
        exact this
      cases cd
      · exact lv_icmp_eq hx hb hd ht (fun hh => kT (decide_eq_true hh)) (fun hh => kF (decide_eq_false hh))
      · exact lv_icmp_ne hx hb hd ht (fun hh => kT (decide_eq_true hh)) (fun hh => kF (decide_eq_false (fun q => q hh)))
      · exact lv_icmp_lt hx hb hd ht (fun hh => kT (decide_eq_true hh)) (fun hh => kF (decide_eq_false hh))
      · exact lv_icmp_ge hx hb hd ht (fun hh => kT (decide_eq_true hh)) (fun hh => kF (decide_eq_false hh))
      · exact lv_icmp_gt hx hb hd ht (fun hh => kT (decide_eq_true hh)) (fun hh => kF (decide_eq_false hh))
      · exact lv_icmp_le hx hb hd ht (fun hh => kT (decide_eq_true hh)) (fun hh => kF (decide_eq_false hh))
    · cases hs
  case getfield idx =>
    simp only [stp] at hs
    split at hs
    · rename_i a S'
      split at hs
      · rename_i ci fs ha
        split at hs
        · rename_i hci
          cases hv : fs[x2]? with
          | none => rw [hv] at hs; cases hs
          | some v =>
            rw [hv] at hs
            cases hs
            have hci' : ci = x1 := Nat.eq_of_beq_eq_true hci
            subst hci'
            obtain ⟨hr1, hr2⟩ := nat_and hr
            obtain ⟨C, T, N, hcl, hin, -⟩ := cls_ok ci (Nat.blt_eq.mp hr1)
            have hTe : fT ci x2 = T x2 := by simp [fT, hcl]
            have hNe : fN ci = N := by simp [fN, hcl]
            have hk : x2 < N := by rw [← hNe]; exact Nat.blt_eq.mp hr2
            have hlink := hwt (.fieldLink M.2.2.2.2.2.1 idx (fT ci x2).1 (fT ci x2).2.1 (fT ci x2).2.2.1) (by simp [rwd])
            rw [hTe] at hlink
            rcases hC.at ha with ⟨-, ho⟩ | ⟨t, j, rfl, h1, h2, hP, h3⟩
            · cases ho
            · exact va_get (D := (dC, dI)) hx hb hts hin hown hK hP j h3 hcl x2 hk hlink (fun _ h9 => h9) (by simp [hv]) hd (kk _ _ _ _ _ X)
        · cases hs
      · cases hs
    · cases hs
  case putfield idx =>
    simp only [stp] at hs
    split at hs
    · rename_i v a S'
      split at hs
      · rename_i ci fs ha
        split at hs
        · rename_i hci
          cases hs
          obtain ⟨hci, hfv⟩ := nat_and hci
          obtain ⟨hfl, hov⟩ := nat_and hfv
          have hci' : ci = x1 := Nat.eq_of_beq_eq_true hci
          subst hci'
          obtain ⟨hr0, hrt⟩ := nat_and hr
          obtain ⟨hr0, hrf⟩ := nat_and hr0
          obtain ⟨hr1, hr2⟩ := nat_and hr0
          obtain ⟨C, T, N, hcl, hin, hty, hnmm, -⟩ := cls_ok ci (Nat.blt_eq.mp hr1)
          have hTe : fT ci x2 = T x2 := by simp [fT, hcl]
          have hNe : fN ci = N := by simp [fN, hcl]
          have hk : x2 < N := by rw [← hNe]; exact Nat.blt_eq.mp hr2
          have hlink := hwt (.fieldLink M.2.2.2.2.2.1 idx (fT ci x2).1 (fT ci x2).2.1 (fT ci x2).2.2.1) (by simp [rwd])
          rw [hTe] at hlink
          have hll : x2 < fs.length := Nat.blt_eq.mp hfl
          have hnf : narrow (tyT ci x2) (vmp bs ba v) = vmp bs ba v ∧ fits (tyT ci x2) (vmp bs ba v) = true := by
            dsimp only at hrt
            cases v with
            | int w =>
              have h7 : (x3 / 2 == 1) = true := hov
              cases ht : tyT ci x2 <;> rw [ht] at hrt <;> first | exact ⟨rfl, rfl⟩ | (exfalso; have h8 : (x3 / 2 == 0) = true := hrt; simp only [beq_iff_eq] at h7 h8; omega) | cases hrt
            | ref w =>
              have h7 : (x3 / 2 == 0) = true := hov
              cases ht : tyT ci x2 <;> rw [ht] at hrt <;> first | exact ⟨rfl, rfl⟩ | (exfalso; have h8 : (x3 / 2 == 1) = true := hrt; simp only [beq_iff_eq] at h7 h8; omega) | cases hrt
            | _ => cases hov
          rcases hC.at ha with ⟨-, ho⟩ | ⟨t, j, rfl, h1, h2, hP, h3⟩
          · cases ho
          · have hfin : ∀ (H1 : Heap) (locs1 : List Loc), va_P (dC, dI) vwCl ((wsF cI cJ bs ba ba t).set j (ba + j, .inr (ci, (fs.map (vmp bs ba)).set x2 (vmp bs ba v)))) H1 → va_D (fun q => ba ≤ q) ((wsF cI cJ bs ba ba t).set j (ba + j, .inr (ci, (fs.map (vmp bs ba)).set x2 (vmp bs ba v)))) → va_S (fun q => ba ≤ q) s.heap H1 locs1 → W p l e R s m args below meth c H1 locs1 cells slots Q (F0 m (pc + 3) ls (S'.map (vmp bs ba))) := by
              intro H1 locs1 hP1 _ hS1
              refine kk _ _ _ _ _ (X.set hba h1 h2 (by simp [osz]) ?_ hS1)
              show va_P (dC, dI) vwCl ((wsF cI cJ bs ba ba t).set j (ba + j, .inr (ci, (fs.set x2 v).map (vmp bs ba)))) H1
              rw [List.map_set]
              exact hP1
            cases hff : (T x2).2.2.2 with
            | false => exact va_put (D := (dC, dI)) hx hb hts hin (tyT ci) hty hnmm hown hK hP (wsF_D cI cJ bs ba t) hS j h3 hcl x2 hk hlink (fun _ h9 => h9) hff (hty x2 hk) hnf.1 hnf.2 (by simpa using hll) hd hfin
            | true =>
              dsimp only at hrf
              rw [hTe, hff] at hrf
              obtain ⟨hr7, hr8⟩ := nat_and hrf
              exact va_putF (D := (dC, dI)) hx hb hts hin (tyT ci) hty hnmm hown hK hP (wsF_D cI cJ bs ba t) hS j h3 hcl x2 hk hlink (fun _ h9 => h9) hff (hnm.trans (of_decide_eq_true hr7)) (of_decide_eq_true hr8) (hty x2 hk) hnf.1 hnf.2 (by simpa using hll) hd hfin
        · cases hs
      · cases hs
    · cases hs
  case arraylength =>
    simp only [stp] at hs
    split at hs
    · rename_i a S'
      split at hs
      · rename_i n1 f1 ha
        cases hs
        rcases hC.at ha with ⟨rfl, ho⟩ | ⟨t, j, rfl, h1, h2, hP, h3⟩
        · cases ho
          exact va_slen hx hb hX (show bs < s.heap.size by omega) (show ¬ ba ≤ bs by omega) hS hd (kk _ _ _ _ _ X)
        · exact va_alen (D := (dC, dI)) hx hb hK hP j 0 h3 rfl rfl hd (kk _ _ _ _ _ X)
      · cases hs
    · cases hs
  case iaload =>
    simp only [stp] at hs
    split at hs
    · rename_i i1 a S'
      split at hs
      · rename_i n1 f1 ha
        split at hs
        · rename_i hin
          cases hs
          have hin' : vp_in i1 n1 := inb_in hin
          rcases hC.at ha with ⟨rfl, ho⟩ | ⟨t, j, rfl, h1, h2, hP, h3⟩
          · cases ho
            exact va_sld hx hb hX (show bs < s.heap.size by omega) (show ¬ ba ≤ bs by omega) hS hin' hd (kk _ _ _ _ _ X)
          · exact va_iald (D := (dC, dI)) hx hb hK hP j 0 h3 rfl hin' hd (kk _ _ _ _ _ X)
        · cases hs
      · cases hs
    · cases hs
  case iastore =>
    simp only [stp] at hs
    split at hs
    · rename_i x i1 a S'
      split at hs
      · rename_i n1 f1 ha
        split at hs
        · rename_i hin
          cases hs
          have hin' : vp_in i1 n1 := inb_in hin
          rcases hC.at ha with ⟨ho, -⟩ | ⟨t, j, hj, h1, h2, hP, h3⟩
          · cases ho
          · cases hj
            exact va_iast (D := (dC, dI)) hx hb hK hP (wsF_D cI cJ bs ba t) hS a 0 h3 rfl hin' hd (fun H1 locs1 hP1 _ hS1 => kk _ _ _ _ _ (X.set hba h1 h2 rfl hP1 hS1))
        · cases hs
      · cases hs
    · cases hs
  case new idx => exact wnew (x1 := x1) (x2 := x2) (x3 := x3) (n := n) hx hb hown hts hE hd hwt hs X hc hz kk
  case newarray ty => exact wnewa (x1 := x1) (x2 := x2) (x3 := x3) (n := n) hx hb hown hts hE hd hwt hs X hc hz kk
  case invokespecial idx =>
    simp only [stp] at hs
    split at hs
    · rename_i h9
      split at hs
      · rename_i a S'
        split at hs
        rotate_left
        · cases hs
        rename_i h88
        cases hs
        have h99 : x1 = 9999 := Nat.eq_of_beq_eq_true h9
        subst h99
        have h888 := Nat.le_of_ble_eq_true h88
        have h77 := cat_sum bs ba S'
        exact W.objInit hx hb hown (hwt _ (by simp [rwd])) (hwt _ (by simp [rwd])) (hwt _ (by simp [rwd])) rfl (by rw [hml]; exact hL.2.1.1) rfl hd (by omega) (by show 2 * 0 + _ + 12 ≤ _; omega) (kk _ _ _ _ _ X)
      · cases hs
    · cases hs
  case invokestatic idx =>
    simp only [stp] at hs
    have hsum : ∀ S' : List Value, S'.length ≤ 8 → ((S'.map (vmp bs ba)).map fun v => v.category).sum + 13 ≤ R.locals := by
      intro S' h8
      have := cat_sum bs ba S'
      omega
    split at hs
    · rename_i y x S'
      split at hs
      · rename_i h8
        cases hs
        have hc0 : cells ≤ R.cells := by
          have : cnt h ≤ R.cells + n0 := hc
          omega
        have hz0 : slots ≤ R.slots := by
          have : slt h ≤ R.slots + z0 := hz
          omega
        exact va_mmax hx hb (hml.trans hL.2.1.1.symm) hown (hwt _ (by simp [rwd])) (hwt _ (by simp [rwd])) (hwt _ (by simp [rwd])) (hwt _ (by simp [rwd])) (by omega) (hsum S' (Nat.le_of_ble_eq_true h8)) hc0 hz0 hd (kk _ _ _ _ _ X)
      · cases hs
    · rename_i y x S'
      split at hs
      · rename_i h8
        cases hs
        have hc0 : cells ≤ R.cells := by
          have : cnt h ≤ R.cells + n0 := hc
          omega
        have hz0 : slots ≤ R.slots := by
          have : slt h ≤ R.slots + z0 := hz
          omega
        exact va_mmin hx hb (hml.trans hL.2.1.1.symm) hown (hwt _ (by simp [rwd])) (hwt _ (by simp [rwd])) (hwt _ (by simp [rwd])) (hwt _ (by simp [rwd])) (by omega) (hsum S' (Nat.le_of_ble_eq_true h8)) hc0 hz0 hd (kk _ _ _ _ _ X)
      · cases hs
    · cases hs
  case tableswitch d lo hi offs =>
    obtain ⟨hr1, hr2⟩ := nat_and hr
    simp only [stp] at hs
    split at hs
    · rename_i x S'
      split at hs
      · rename_i hcond
        cases hs
        exact lv_tableOut hx hb hd (of_decide_eq_true hcond) (Int.toNat_of_nonneg (of_decide_eq_true hr1)).symm (kk _ _ _ _ _ X)
      · rename_i hcond
        have hno := of_decide_eq_false hcond
        split at hs
        · rename_i off ho
          cases hs
          have hoff : 0 ≤ (pc : Int) + off := by
            obtain ⟨hlt, he⟩ := Array.getElem?_eq_some_iff.mp ho
            have := Array.all_eq_true.mp hr2 _ hlt
            rw [he] at this
            exact of_decide_eq_true this
          exact lv_tableIn hx hb hd (fun q => hno (Or.inl q)) (fun q => hno (Or.inr q)) ho (Int.toNat_of_nonneg hoff).symm (kk _ _ _ _ _ X)
        · cases hs
    · cases hs
  all_goals cases hs
end
end
