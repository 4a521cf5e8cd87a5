/-! SOUNDNESS: what the abstract machine comes to, the machine comes to. -/
section
variable {dC : Nat → ClassId} {dI : Nat → Nat → Nat} {cI cJ : ClassId} {bs ba Ls : Nat} {xs : Nat → Int32} {sa : Nat → Nat} {l : Launch}
theorem cal_eq {s : State} {cells n0 : Nat} {h : AH} {H : Heap} (hC : CorH dC dI cI cJ bs ba Ls xs h H) (h1 : H.size ≤ s.heap.size + cells) (h2 : h.1 = 0 → s.heap.size + cells + 1 = ba + h.2.length) : h.1 = 0 → H.size + 1 = ba + h.2.length := by
  intro h0
  obtain ⟨t, e1, e2, e3⟩ := hC
  have := h2 h0
  have e4 : h.2.length = t.length + 1 := by rw [e1]; rfl
  omega
theorem cal_snds {s : State} {nL n0 z0 cells slots : Nat} {h h1 : AH} {L : List Value} {H H1 : Heap} {locs locs1 : List Loc} {ls : Array Slot} (X : SndS dC dI cI cJ bs ba Ls xs s nL n0 z0 h L H locs cells slots ls) (hm : mono h h1) (hC : CorH dC dI cI cJ bs ba Ls xs h1 H1) (hS : va_S (fun q => ba ≤ q) s.heap H1 locs1) : SndS dC dI cI cJ bs ba Ls xs s nL n0 z0 h1 L H1 locs1 (cells + (cnt h1 - cnt h)) (slots + (slt h1 - slt h)) ls := by
  obtain ⟨x1, x2, x3, x4, x5, x6⟩ := X
  obtain ⟨m1, m2, m3⟩ := hm
  refine ⟨hC, hS, x3, by omega, by omega, fun h0 => ?_⟩
  have h00 : h.1 = 0 := by omega
  have := x6 h00
  simp only [cnt] at m2 ⊢
  omega
theorem snd_step (hT : Tab) {d k : Nat} {M : Mt} {pc : Nat} {r : Rw} {L S : List Value} {h : AH} {c' : Cf} {o : Ou} (hM : mAt k = some M) (hr : rAtM M pc = some r) (hs : stp pc r L S h = some c') (e2 : Snd dC dI cI cJ bs ba Ls xs sa l d k c' o) : Snd dC dI cI cJ bs ba Ls xs sa l d k (pc, L, S, h) o := by
  obtain ⟨hok, hwd⟩ := row_ok hT hM hr
  refine ⟨(stp_mono hs).trans e2.1, e2.2.1, ?_⟩
  intro p e R s m args below meth c M' H locs cells slots ls n0 z0 Q hM' F X hc hz hG
  cases hM.symm.trans hM'
  have hm := e2.1
  exact wstep F hok hwd hs X (Nat.le_trans hm.2.1 hc) (Nat.le_trans hm.2.2 hz) (fun H' locs' cells' slots' ls' X' => e2.2.2 p e R s m args below meth c M H' locs' cells' slots' ls' n0 z0 Q hM F X' hc hz hG)
theorem snd_call (hT : Tab) {d k : Nat} {M : Mt} {pc : Nat} {r : Rw} {L S : List Value} {h h1 : AH} {y : Nat} {as rest : List Value} {v : Option Value} {o : Ou} (hM : mAt k = some M) (hr : rAtM M pc = some r) (hs : cll r S h = some (y, as, rest)) (hl : rest.length ≤ 4)
    (e1 : Snd dC dI cI cJ bs ba Ls xs sa l d y (ent0 y as h) (.inl v, h1)) (e2 : Snd dC dI cI cJ bs ba Ls xs sa l (d + 1) k (pc + 3, L, v.toList ++ rest, h1) o) : Snd dC dI cI cJ bs ba Ls xs sa l (d + 1) k (pc, L, S, h) o := by
  have hm1 : mono h h1 := e1.1
  have hm2 : mono h1 o.2 := e2.1
  refine ⟨hm1.trans hm2, e2.2.1, ?_⟩
  intro p e R s m args below meth c M' H locs cells slots ls n0 z0 Q hM' F X hc hz hG
  cases hM.symm.trans hM'
  refine W_sz fun hsz => ?_
  have hH := cal_eq (n0 := n0) X.1 hsz X.2.2.2.2.2
  have hc1 : cnt h1 ≤ R.cells + n0 := Nat.le_trans hm2.2.1 hc
  have hz1 : slt h1 ≤ R.slots + z0 := Nat.le_trans hm2.2.2 hz
  have hS := X.2.1
  have fin' : ∀ (H1 : Heap) (locs1 : List Loc), CorH dC dI cI cJ bs ba Ls xs h1 H1 → va_S (fun q => ba ≤ q) s.heap H1 locs1 → W p l e R s m args below meth c H1 locs1 (cells + (cnt h1 - cnt h)) (slots + (slt h1 - slt h)) Q (F0 m (pc + 3) ls ((v.toList ++ rest).map (vmp bs ba))) := fun H1 locs1 hC1 hS1 =>
    e2.2.2 p e R s m args below meth c M H1 locs1 _ _ ls n0 z0 Q hM F (cal_snds X hm1 hC1 hS1) hc hz hG
  cases v with
  | none =>
    obtain ⟨aa, hrun⟩ := call_run (Qc := va_Qv (fun _ : Unit => True) (fun _ t => CorH dC dI cI cJ bs ba Ls xs h1 t.heap) (fun q => ba ≤ q)) (XC := vx_X (fun _ : Unit => False) (fun _ _ _ => False) (fun q => ba ≤ q)) hT hM hr hs hl F X e1 (Or.inr ⟨_, rfl⟩) hc1 hz1 hH (fun a s t r hr => by cases hr) (fun a s t _ h2 h3 => ⟨⟨(), rfl, trivial, h2⟩, h3⟩) (fun s t E hE => by cases hE)
    exact vx_callv hrun hS (fun q _ z => z) (fun q z => z) (fun q _ z => z) (fun E ce q9 u t H1 locs1 _ _ hf => hf.elim) (fun u t H1 locs1 ht _ _ hB _ _ hS1 => fin' H1 locs1 (ht ▸ hB) hS1)
  | some w =>
    cases w with
    | int x =>
      obtain ⟨aa, hrun⟩ := call_run (Qc := va_Qi (fun (z : Int32) (_ : Unit) => z = x) (fun _ t => CorH dC dI cI cJ bs ba Ls xs h1 t.heap) (fun q => ba ≤ q)) (XC := vx_X (fun _ : Unit => False) (fun _ _ _ => False) (fun q => ba ≤ q)) hT hM hr hs hl F X e1 (Or.inr ⟨_, rfl⟩) hc1 hz1 hH (fun a s t r hr h2 h3 => by cases hr; exact ⟨⟨x, (), rfl, rfl, h2⟩, h3⟩) (fun a s t hr => by cases hr) (fun s t E hE => by cases hE)
      exact vx_calli hrun hS (fun q _ z => z) (fun q z => z) (fun q _ z => z) (fun E ce q9 u t H1 locs1 _ _ hf => hf.elim) (fun r u t H1 locs1 ht _ hp hB _ _ hS1 => by
        cases hp
        exact fin' H1 locs1 (ht ▸ hB) hS1)
    | _ =>
      obtain ⟨aa, hrun⟩ := call_run (Qc := va_Qv (fun _ : Unit => False) (fun _ _ => False) (fun q => ba ≤ q)) (XC := vx_X (fun _ : Unit => False) (fun _ _ _ => False) (fun q => ba ≤ q)) hT hM hr hs hl F X e1 (Or.inr ⟨_, rfl⟩) hc1 hz1 hH (fun a s t r hr => by cases hr) (fun a s t hr => by cases hr) (fun s t E hE => by cases hE)
      exact vx_callv hrun hS (fun q _ z => z) (fun q z => z) (fun q _ z => z) (fun E ce q9 u t H1 locs1 _ _ hf => hf.elim) (fun u t H1 locs1 _ _ hp => hp.elim)
theorem snd_pass (hT : Tab) {d k : Nat} {M : Mt} {pc : Nat} {r : Rw} {L S : List Value} {h h1 : AH} {y E0 : Nat} {as rest : List Value} (hM : mAt k = some M) (hr : rAtM M pc = some r) (hs : cll r S h = some (y, as, rest)) (hl : rest.length ≤ 4) (hn : nsp r = true) (hh : M.2.2.2.2.1 = [])
    (e1 : Snd dC dI cI cJ bs ba Ls xs sa l d y (ent0 y as h) (.inr E0, h1)) : Snd dC dI cI cJ bs ba Ls xs sa l (d + 1) k (pc, L, S, h) (.inr E0, h1) := by
  have hm1 : mono h h1 := e1.1
  refine ⟨hm1, e1.2.1, ?_⟩
  intro p e R s m args below meth c M' H locs cells slots ls n0 z0 Q hM' F X hc hz hG
  cases hM.symm.trans hM'
  refine W_sz fun hsz => ?_
  have hH := cal_eq (n0 := n0) X.1 hsz X.2.2.2.2.2
  obtain ⟨Qc, XC, mc, ms, rfl, hXC, hmc, hms⟩ := hG
  obtain ⟨aa, hrun⟩ := call_run (Qc := va_Qv (fun _ : Unit => False) (fun _ _ => False) (fun q => ba ≤ q)) (XC := vx_X (fun _ : Unit => True) (fun E' _ t => E' = exn E0 ∧ CorH dC dI cI cJ bs ba Ls xs h1 t.heap) (fun q => ba ≤ q)) hT hM hr hs hl F X e1 (Or.inl hn) hc hz hH (fun a s t r hr => by cases hr) (fun a s t hr => by cases hr) (fun s t E hE _ h2 h3 => by cases hE; exact ⟨(), trivial, ⟨rfl, h2⟩, h3⟩)
  have hex : c.exceptionTable.toList = tableOf M.2.2.2.2.1 := F.2.2.2.2.2.2.2.1
  have x4 : cells + n0 = cnt h := X.2.2.2.1
  have x5 : slots + z0 = slt h := X.2.2.2.2.1
  have m2 : cnt h ≤ cnt h1 := hm1.2.1
  have m3 : slt h ≤ slt h1 := hm1.2.2
  refine vx_callv hrun X.2.1 (fun q _ z => z) (fun q z => z) (fun q _ z => z) (fun E ce q9 u t H1 locs1 ht hal _ hB _ _ hS1 hce hcv hcl => ?_) (fun u t H1 locs1 _ _ hp => hp.elim)
  obtain ⟨rfl, hC1⟩ := hB
  refine vx_out (E := exn E0) (by
    rw [hex, hh]
    intro x hx
    cases hx) F.2.2.2.2.2.1 hce hcv hcl (fun t2 ht2 hal2 => hXC t2 hal2 (by rw [ht2, ← ht]; exact hC1) (hS1.F ht2)) hS1.2.2 ?_ ?_
  · show cells + (cnt h1 - cnt h) ≤ mc
    have : cnt h1 ≤ mc + n0 := hmc
    omega
  · show slots + (slt h1 - slt h) ≤ ms
    have : slt h1 ≤ ms + z0 := hms
    omega
theorem snd_all (hT : Tab) (hl : l.stackTraces = false) {d k : Nat} {c : Cf} {o : Ou} (h : Ev d k c o) : Snd dC dI cI cJ bs ba Ls xs sa l d k c o :=
  h _ ⟨fun _ _ _ _ _ _ _ _ _ hM hr hf => fin_ret hT hl hM hr hf, fun _ _ _ _ _ _ _ _ _ _ hM hr hs e => snd_step hT hM hr hs e, fun _ _ _ _ _ _ _ _ _ _ _ _ _ _ hM hr hs hl e1 e2 => snd_call hT hM hr hs hl e1 e2, fun _ _ _ _ _ _ _ _ _ _ _ _ _ hM hr hs hl hn hh e1 => snd_pass hT hM hr hs hl hn hh e1⟩
end
