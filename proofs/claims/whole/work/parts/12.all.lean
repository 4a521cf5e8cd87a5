/-! SOUNDNESS: what the abstract machine comes to, the machine comes to. -/
section
variable {dC : Nat → ClassId} {dI : Nat → Nat → Nat} {cI cJ : ClassId} {bs ba Ls : Nat} {xs : Nat → Int32} {sa : Nat → Nat} {l : Launch}
theorem cal_eq {s : State} {cells n0 : Nat} {h : AH} {H : Heap} (hC : CorH dC dI cI cJ bs ba Ls xs h H) (h1 : H.size ≤ s.heap.size + cells) (h2 : h.1 = 0 → s.heap.size + cells + 1 = ba + h.2.length) : h.1 = 0 → H.size + 1 = ba + h.2.length := by
  intro h0
  obtain ⟨t, e1, e2, e3⟩ := hC
  have := h2 h0
  have e4 : h.2.length = t.length + 1 := by rw [e1]; rfl
  omega
theorem cal_snds {s : State} {nL n0 z0 cells slots : Nat} {h h1 : AH} {L : List Value} {H H1 : Heap} {locs locs1 : List Loc} {ls : Array Slot} (X : SndS dC dI cI cJ bs ba Ls xs s nL n0 z0 h L H locs cells slots ls) (hm : mono h h1) (hC : CorH dC dI cI cJ bs ba Ls xs h1 H1) (hS : va_S (fun q => ba ≤ q) s.heap H1 locs1) : SndS dC dI cI cJ bs ba Ls xs s nL n0 z0 h1 L H1 locs1 (cells + (cnt h1 - cnt h)) (slots + (slt h1 - slt h)) ls := by
  obtain ⟨x1, x2, x3, x4, x5, x6⟩ := X
  obtain ⟨m1, m2, m3⟩ := hm
  refine ⟨hC, hS, x3, by omega, by omega, fun h0 => ?_⟩
  have h00 : h.1 = 0 := by omega
  have := x6 h00
  simp only [cnt] at m2 ⊢
  omega
theorem snd_step (hT : Tab) {d k : Nat} {M : Mt} {pc : Nat} {r : Rw} {L S : List Value} {h : AH} {c' : Cf} {o : Ou} (hM : mAt k = some M) (hr : rAtM M pc = some r) (hs : stp pc r L S h = some c') (e2 : Snd dC dI cI cJ bs ba Ls xs sa l d k c' o) : Snd dC dI cI cJ bs ba Ls xs sa l d k (pc, L, S, h) o := by
  obtain ⟨hok, hwd⟩ := row_ok hT hM hr
  refine ⟨(stp_mono hs).trans e2.1, e2.2.1, ?_⟩
  intro p e R s m args below meth c M' H locs cells slots ls n0 z0 Q hM' F X hc hz hG
  cases hM.symm.trans hM'
  have hm := e2.1
  exact wstep F hok hwd hs X (Nat.le_trans hm.2.1 hc) (Nat.le_trans hm.2.2 hz) (fun H' locs' cells' slots' ls' X' => e2.2.2 p e R s m args below meth c M H' locs' cells' slots' ls' n0 z0 Q hM F X' hc hz hG)
theorem snd_call (hT : Tab) {d k : Nat} {M : Mt} {pc : Nat} {r : Rw} {L S : List Value} {h h1 : AH} {y : Nat} {as rest : List Value} {v : Option Value} {o : Ou} (hM : mAt k = some M) (hr : rAtM M pc = some r) (hs : cll r S h = some (y, as, rest)) (hl : rest.length ≤ 4)
    (e1 : Snd dC dI cI cJ bs ba Ls xs sa l d y (ent0 y as h) (.inl v, h1)) (e2 : Snd dC dI cI cJ bs ba Ls xs sa l (d + 1) k (pc + 3, L, v.toList ++ rest, h1) o) : Snd dC dI cI cJ bs ba Ls xs sa l (d + 1) k (pc, L, S, h) o := by
  have hm1 : mono h h1 := e1.1
  have hm2 : mono h1 o.2 := e2.1
  refine ⟨hm1.trans hm2, e2.2.1, ?_⟩
  intro p e R s m args below meth c M' H locs cells slots ls n0 z0 Q hM' F X hc hz hG
  cases hM.symm.trans hM'
  refine W_sz fun hsz => ?_
  have hH := cal_eq (n0 := n0) X.1 hsz X.2.2.2.2.2
  have hc1 : cnt h1 ≤ R.cells + n0 := Nat.le_trans hm2.2.1 hc
  have hz1 : slt h1 ≤ R.slots + z0 := Nat.le_trans hm2.2.2 hz
  have hS := X.2.1
  have fin' : ∀ (H1 : Heap) (locs1 : List Loc), CorH dC dI cI cJ bs ba Ls xs h1 H1 → va_S (fun q => ba ≤ q) s.heap H1 locs1 → W p l e R s m args below meth c H1 locs1 (cells + (cnt h1 - cnt h)) (slots + (slt h1 - slt h)) Q (F0 m (pc + 3) ls ((v.toList ++ rest).map (vmp bs ba))) := fun H1 locs1 hC1 hS1 =>
    e2.2.2 p e R s m args below meth c M H1 locs1 _ _ ls n0 z0 Q hM F (cal_snds X hm1 hC1 hS1) hc hz hG
  cases v with
  | none =>
    obtain ⟨aa, hrun⟩ := call_run (Qc := va_Qv (fun _ : Unit => True) (fun _ t => CorH dC dI cI cJ bs ba Ls xs h1 t.heap) (fun q => ba ≤ q)) (XC := vx_X (fun _ : Unit => False) (fun _ _ _ => False) (fun q => ba ≤ q)) hT hM hr hs hl F X e1 (Or.inr ⟨_, rfl⟩) hc1 hz1 hH (fun a s t r hr => by cases hr) (fun a s t _ h2 h3 => ⟨⟨(), rfl, trivial, h2⟩, h3⟩) (fun s t E hE => by cases hE)
    exact vx_callv hrun hS (fun q _ z => z) (fun q z => z) (fun q _ z => z) (fun E ce q9 u t H1 locs1 _ _ hf => hf.elim) (fun u t H1 locs1 ht _ _ hB _ _ hS1 => fin' H1 locs1 (ht ▸ hB) hS1)
  | some w =>
    cases w with
    | int x =>
      obtain ⟨aa, hrun⟩ := call_run (Qc := va_Qi (fun (z : Int32) (_ : Unit) => z = x) (fun _ t => CorH dC dI cI cJ bs ba Ls xs h1 t.heap) (fun q => ba ≤ q)) (XC := vx_X (fun _ : Unit => False) (fun _ _ _ => False) (fun q => ba ≤ q)) hT hM hr hs hl F X e1 (Or.inr ⟨_, rfl⟩) hc1 hz1 hH (fun a s t r hr h2 h3 => by cases hr; exact ⟨⟨x, (), rfl, rfl, h2⟩, h3⟩) (fun a s t hr => by cases hr) (fun s t E hE => by cases hE)
      exact vx_calli hrun hS (fun q _ z => z) (fun q z => z) (fun q _ z => z) (fun E ce q9 u t H1 locs1 _ _ hf => hf.elim) (fun r u t H1 locs1 ht _ hp hB _ _ hS1 => by
        cases hp
        exact fin' H1 locs1 (ht ▸ hB) hS1)
    | _ =>
      obtain ⟨aa, hrun⟩ := call_run (Qc := va_Qv (fun _ : Unit => False) (fun _ _ => False) (fun q => ba ≤ q)) (XC := vx_X (fun _ : Unit => False) (fun _ _ _ => False) (fun q => ba ≤ q)) hT hM hr hs hl F X e1 (Or.inr ⟨_, rfl⟩) hc1 hz1 hH (fun a s t r hr => by cases hr) (fun a s t hr => by cases hr) (fun s t E hE => by cases hE)
      exact vx_callv hrun hS (fun q _ z => z) (fun q z => z) (fun q _ z => z) (fun E ce q9 u t H1 locs1 _ _ hf => hf.elim) (fun u t H1 locs1 _ _ hp => hp.elim)
theorem snd_pass (hT : Tab) {d k : Nat} {M : Mt} {pc : Nat} {r : Rw} {L S : List Value} {h h1 : AH} {y E0 : Nat} {as rest : List Value} (hM : mAt k = some M) (hr : rAtM M pc = some r) (hs : cll r S h = some (y, as, rest)) (hl : rest.length ≤ 4) (hn : nsp r = true) (hh : M.2.2.2.2.1 = [])
    (e1 : Snd dC dI cI cJ bs ba Ls xs sa l d y (ent0 y as h) (.inr E0, h1)) : Snd dC dI cI cJ bs ba Ls xs sa l (d + 1) k (pc, L, S, h) (.inr E0, h1) := by
  have hm1 : mono h h1 := e1.1
  refine ⟨hm1, e1.2.1, ?_⟩
  intro p e R s m args below meth c M' H locs cells slots ls n0 z0 Q hM' F X hc hz hG
  cases hM.symm.trans hM'
  refine W_sz fun hsz => ?_
  have hH := cal_eq (n0 := n0) X.1 hsz X.2.2.2.2.2
  obtain ⟨Qc, XC, mc, ms, rfl, hXC, hmc, hms⟩ := hG
  obtain ⟨aa, hrun⟩ := call_run (Qc := va_Qv (fun _ : Unit => False) (fun _ _ => False) (fun q => ba ≤ q)) (XC := vx_X (fun _ : Unit => True) (fun E' _ t => E' = exn E0 ∧ CorH dC dI cI cJ bs ba Ls xs h1 t.heap) (fun q => ba ≤ q)) hT hM hr hs hl F X e1 (Or.inl hn) hc hz hH (fun a s t r hr => by cases hr) (fun a s t hr => by cases hr) (fun s t E hE _ h2 h3 => by cases hE; exact ⟨(), trivial, ⟨rfl, h2⟩, h3⟩)
  have hex : c.exceptionTable.toList = tableOf M.2.2.2.2.1 := F.2.2.2.2.2.2.2.1
  have x4 : cells + n0 = cnt h := X.2.2.2.1
  have x5 : slots + z0 = slt h := X.2.2.2.2.1
  have m2 : cnt h ≤ cnt h1 := hm1.2.1
  have m3 : slt h ≤ slt h1 := hm1.2.2
  refine vx_callv hrun X.2.1 (fun q _ z => z) (fun q z => z) (fun q _ z => z) (fun E ce q9 u t H1 locs1 ht hal _ hB _ _ hS1 hce hcv hcl => ?_) (fun u t H1 locs1 _ _ hp => hp.elim)
  obtain ⟨rfl, hC1⟩ := hB
  refine vx_out (E := exn E0) (by
    rw [hex, hh]
    intro x hx
    cases hx) F.2.2.2.2.2.1 hce hcv hcl (fun t2 ht2 hal2 => hXC t2 hal2 (by rw [ht2, ← ht]; exact hC1) (hS1.F ht2)) hS1.2.2 ?_ ?_
  · show cells + (cnt h1 - cnt h) ≤ mc
    have : cnt h1 ≤ mc + n0 := hmc
    omega
  · show slots + (slt h1 - slt h) ≤ ms
    have : slt h1 ≤ ms + z0 := hms
    omega
theorem hnd_split {M : Mt} {pc E hp : Nat} : ∀ {hs : List (Nat × Nat × Nat × Nat)}, hnd M hs pc E = some hp → ∃ pre q suf, hs = pre ++ q :: suf ∧ (q.1 ≤ pc ∧ pc < q.2.1) ∧ hnd.hcl M q.2.2.2 E = true ∧ hp = q.2.2.1 ∧ ∀ z ∈ pre, ¬ (z.1 ≤ pc ∧ pc < z.2.1) ∨ hnd.hcl M z.2.2.2 E = false
  | [], h => by cases h
  | q :: hs, h => by
    unfold hnd at h
    cases hb : (decide (q.1 ≤ pc ∧ pc < q.2.1) && hnd.hcl M q.2.2.2 E) with
    | true =>
      rw [hb] at h
      obtain ⟨b1, b2⟩ := nat_and hb
      exact ⟨[], q, hs, rfl, of_decide_eq_true b1, b2, (Option.some.inj h).symm, fun z hz => by cases hz⟩
    | false =>
      rw [hb] at h
      obtain ⟨pre, q2, suf, a1, a2, a3, a4, a5⟩ := hnd_split h
      refine ⟨q :: pre, q2, suf, by rw [a1]; rfl, a2, a3, a4, fun z hz => ?_⟩
      rcases List.mem_cons.mp hz with rfl | hz
      · by_cases hc : z.1 ≤ pc ∧ pc < z.2.1
        · right
          rw [decide_eq_true hc, Bool.true_and] at hb
          exact hb
        · exact Or.inl hc
      · exact a5 z hz
theorem hcl_cases {M : Mt} {ct E : Nat} (h : hnd.hcl M ct E = true) : (ct = 13 ∧ E = 0) ∨ (ct = 18 ∧ E = 1) ∨ (ct = 24 ∧ E = 2) := by
  unfold hnd.hcl at h
  split at h
  · exact Or.inl ⟨rfl, rfl⟩
  · exact Or.inr (Or.inl ⟨rfl, rfl⟩)
  · exact Or.inr (Or.inr ⟨rfl, rfl⟩)
  · cases h
theorem hst_inv {M : Mt} {hp : Nat} {q : Nat × Nat} (h : hst M hp = some q) : (∃ j n x, rAtM M hp = some (.astore_n j, n, x) ∧ q = (hp + 1, j.val)) ∨ (∃ j n x, rAtM M hp = some (.astore j, n, x) ∧ q = (hp + 2, j)) := by
  unfold hst at h
  split at h
  · rename_i j r2 e
    obtain ⟨n, x⟩ := r2
    exact Or.inl ⟨j, n, x, e, (Option.some.inj h).symm⟩
  · rename_i j r2 e
    obtain ⟨n, x⟩ := r2
    exact Or.inr ⟨j, n, x, e, (Option.some.inj h).symm⟩
  · cases h
theorem cast_NG : ∀ E, E < 3 → Cond.castable (exn E) (exn E) ∈ NG := by
  intro E hE
  have : E = 0 ∨ E = 1 ∨ E = 2 := by omega
  rcases this with rfl | rfl | rfl <;> decide +kernel
theorem snd_catch (hT : Tab) {d k : Nat} {M : Mt} {pc : Nat} {r : Rw} {L S : List Value} {h h1 : AH} {y E0 hp : Nat} {as rest : List Value} {q : Nat × Nat} {o : Ou} (hM : mAt k = some M) (hr : rAtM M pc = some r) (hs : cll r S h = some (y, as, rest)) (hl : rest.length ≤ 4) (hn : nsp r = true) (hh : hnd M M.2.2.2.2.1 pc E0 = some hp) (hq : hst M hp = some q) (hj : q.2 < L.length)
    (e1 : Snd dC dI cI cJ bs ba Ls xs sa l d y (ent0 y as h) (.inr E0, h1)) (e2 : Snd dC dI cI cJ bs ba Ls xs sa l (d + 1) k (q.1, L.set q.2 jk, [], h1) o) : Snd dC dI cI cJ bs ba Ls xs sa l (d + 1) k (pc, L, S, h) o := by
  have hm1 : mono h h1 := e1.1
  have hm2 : mono h1 o.2 := e2.1
  have hE3 : E0 < 3 := e1.2.1 E0 rfl
  refine ⟨hm1.trans hm2, e2.2.1, ?_⟩
  intro p e R s m args below meth c M' H locs cells slots ls n0 z0 Q hM' F X hc hz hG
  cases hM.symm.trans hM'
  refine W_sz fun hsz => ?_
  have hH := cal_eq (n0 := n0) X.1 hsz X.2.2.2.2.2
  have hc1 : cnt h1 ≤ R.cells + n0 := Nat.le_trans hm2.2.1 hc
  have hz1 : slt h1 ≤ R.slots + z0 := Nat.le_trans hm2.2.2 hz
  obtain ⟨aa, hrun⟩ := call_run (Qc := va_Qv (fun _ : Unit => False) (fun _ _ => False) (fun q => ba ≤ q)) (XC := vx_X (fun _ : Unit => True) (fun E' _ t => E' = exn E0 ∧ CorH dC dI cI cJ bs ba Ls xs h1 t.heap) (fun q => ba ≤ q)) hT hM hr hs hl F X e1 (Or.inl hn) hc1 hz1 hH (fun a s t r hr => by cases hr) (fun a s t hr => by cases hr) (fun s t E hE _ h2 h3 => by cases hE; exact ⟨(), trivial, ⟨rfl, h2⟩, h3⟩)
  have F' := F
  obtain ⟨hx, hb, hml, hret, hown, hlk, hnm, hex, hts, hEn, hfr, hlo⟩ := F'
  obtain ⟨a1, a2, a3, a4, a5, a6, a7, a8, a9⟩ := hEn
  refine vx_callv hrun X.2.1 (fun q _ z => z) (fun q z => z) (fun q _ z => z) (fun E ce q9 u t H1 locs1 ht hal _ hB _ _ hS1 hce hcv hcl => ?_) (fun u t H1 locs1 _ _ hp => hp.elim)
  obtain ⟨rfl, hC1⟩ := hB
  obtain ⟨pre, q0, suf, b1, b2, b3, rfl, b5⟩ := hnd_split hh
  have hhw := hnd_words hT hM
  have hct := hcl_cases b3
  have hown' : s.vm.findClass M.2.2.2.2.2.1 = some m.cls := hown
  have hq0 : q0 ∈ M.2.2.2.2.1 := by rw [b1]; simp
  have hlink : (Cond.classLink M.2.2.2.2.2.1 q0.2.2.2 (exn E0)).before args s = true := hts _ ((hhw q0 hq0).2 _ (by
    unfold hwd
    rcases hct with ⟨c1, c2⟩ | ⟨c1, c2⟩ | ⟨c1, c2⟩ <;> rw [c1, c2] <;> exact List.mem_cons_self))
  have h00 : q0.2.2.2 ≠ 0 := by rcases hct with ⟨c1, c2⟩ | ⟨c1, c2⟩ | ⟨c1, c2⟩ <;> rw [c1] <;> decide
  refine vx_catch (own := M.2.2.2.2.2.1) (name := exn E0) (E := exn E0) hown (pre.map fun q => ⟨q.1, q.2.1, q.2.2.1, q.2.2.2⟩) ⟨q0.1, q0.2.1, q0.2.2.1, q0.2.2.2⟩ (suf.map fun q => ⟨q.1, q.2.1, q.2.2.1, q.2.2.2⟩) (by rw [hex, b1]; simp [tableOf]) (fun z hz => ?_) (by simp only [covers]; simpa using b2) h00 hlink (ng_moved (cast_NG E0 hE3) (Vm.Alike.refl s.vm) (a8 _ (cast_NG E0 hE3))) hce hcv hcl ?_
  · obtain ⟨z0', hz0, rfl⟩ := List.mem_map.mp hz
    rcases b5 z0' hz0 with c1 | c1
    · left
      simp only [covers]
      simpa using c1
    · right
      have hz9 : z0' ∈ M.2.2.2.2.1 := by rw [b1]; exact List.mem_append_left _ hz0
      obtain ⟨d1, d2⟩ := hhw z0' hz9
      have hne : ∀ i, i < 3 → hnd.hcl M z0'.2.2.2 i = true → (Cond.classLink M.2.2.2.2.2.1 z0'.2.2.2 (exn i)).before args s = true → z0'.2.2.2 ≠ 0 ∧ ∃ nm : String, (Cond.classLink M.2.2.2.2.2.1 z0'.2.2.2 nm).before args s = true ∧ va_Nc (exn E0) nm s := fun i hi hc9 hl9 => by
        refine ⟨by rcases d1 with c | c | c <;> rw [c] <;> decide, exn i, hl9, a9 E0 i hE3 hi (fun e9 => ?_)⟩
        rw [← e9, c1] at hc9
        cases hc9
      rcases d1 with c | c | c
      · exact hne 0 (by decide) (by rw [c]; rfl) (hts _ (d2 _ (by unfold hwd; rw [c]; exact List.mem_cons_self)))
      · exact hne 1 (by decide) (by rw [c]; rfl) (hts _ (d2 _ (by unfold hwd; rw [c]; exact List.mem_cons_self)))
      · exact hne 2 (by decide) (by rw [c]; rfl) (hts _ (d2 _ (by unfold hwd; rw [c]; exact List.mem_cons_self)))
  · have hLl : L.length = M.2.2.1 := X.2.2.1.1
    have X1 : SndS dC dI cI cJ bs ba Ls xs s M.2.2.1 n0 z0 h1 L H1 locs1 (cells + (cnt h1 - cnt h)) (slots + (slt h1 - slt h)) ls := cal_snds X hm1 (ht ▸ hC1) hS1
    have go : ∀ (j pc' : Nat) (ls' : Array Slot), q = (pc', j) → lv_has ls' M.2.2.1 ((j, .ref q9) :: (prsF bs ba 0 L).filter (fun q => !(q.1 == j) && !(q.1 + 1 == j && q.2.category == 2))) → W p l e R s m args below meth c H1 locs1 (cells + (cnt h1 - cnt h)) (slots + (slt h1 - slt h)) Q (F0 m pc' ls' []) := fun j pc' ls' hqe hl' => by
      subst hqe
      obtain ⟨y1, y2, y3, y4, y5, y6⟩ := X1
      exact e2.2.2 p e R s m args below meth c M H1 locs1 _ _ ls' n0 z0 Q hM F ⟨y1, y2, y3.put (v := jk) rfl (Or.inr ⟨0, rfl⟩) hl', y4, y5, y6⟩ hc hz hG
    rcases hst_inv hq with ⟨j, n, x, c1, c2⟩ | ⟨j, n, x, c1, c2⟩
    · obtain ⟨hok, -⟩ := row_ok hT hM c1
      unfold rok at hok
      have hd : decode M.2.1 q0.2.2.1 = .ok (.astore_n j, 1) := of_decide_eq_true (nat_and hok).1
      have hjl : j.val < M.2.2.1 := by rw [c2] at hj; rw [← hLl]; exact hj
      exact lv_astore_n hx hb hd rfl X.2.2.1.2.1 hjl rfl (fun ls' hl' => go j.val _ ls' c2 hl')
    · obtain ⟨hok, -⟩ := row_ok hT hM c1
      unfold rok at hok
      have hd : decode M.2.1 q0.2.2.1 = .ok (.astore j, 2) := of_decide_eq_true (nat_and hok).1
      have hjl : j < M.2.2.1 := by rw [c2] at hj; rw [← hLl]; exact hj
      exact lv_astore hx hb hd X.2.2.1.2.1 hjl rfl (fun ls' hl' => go j _ ls' c2 hl')
/-- SOUND -/
theorem snd_all (hT : Tab) (hl : l.stackTraces = false) {d k : Nat} {c : Cf} {o : Ou} (h : Ev d k c o) : Snd dC dI cI cJ bs ba Ls xs sa l d k c o :=
  h _ ⟨fun _ _ _ _ _ _ _ _ _ hM hr hf => fin_ret hT hl hM hr hf, fun _ _ _ _ _ _ _ _ _ _ hM hr hs e => snd_step hT hM hr hs e, fun _ _ _ _ _ _ _ _ _ _ _ _ _ _ hM hr hs hl e1 e2 => snd_call hT hM hr hs hl e1 e2, fun _ _ _ _ _ _ _ _ _ _ _ _ _ hM hr hs hl hn hh e1 => snd_pass hT hM hr hs hl hn hh e1, fun _ _ _ _ _ _ _ _ _ _ _ _ _ _ _ _ hM hr hs hl hn hh hq hj e1 e2 => snd_catch hT hM hr hs hl hn hh hq hj e1 e2⟩
end
