/-! THE CLAIM OUT OF A RUN OF THE ABSTRACT MACHINE. -/
section
def kLaw : Nat := 83
def h00 (Ls : Nat) (xs : Nat → Int32) : AH := (0, [.inl (Ls, .inl xs)])
/-- what is wanted of the abstract machine -/
def LawOK : Prop := ∀ (Ls : Nat) (xs : Nat → Int32), Ls ≤ 260 → ∃ h : AH, Ev 9 kLaw (ent0 kLaw [.ref 0] (h00 Ls xs)) (.inl (some (.int 1)), h) ∧ cnt h ≤ 600104 ∧ slt h ≤ 7301314
theorem cls_known {s : State} {args : Array Value} (hts : ∀ w ∈ lw_tbl, w.before args s = true) (k : Nat) : ∃ (c : ClassId) (i : Nat → Nat), ∀ q : vw_C, vwCl[k]? = some q → u_Kn s q.1 q.2.1 q.2.2 c i := by
  match k with
  | 0 => obtain ⟨c, i, h⟩ := u_known (n := 3) hts in_X0 (hts (.instantiable RX0 3) (by decide +kernel)); exact ⟨c, i, fun q hq => by cases hq; exact h⟩
  | 1 => obtain ⟨c, i, h⟩ := u_known (n := 5) hts in_X1 (hts (.instantiable RX1 5) (by decide +kernel)); exact ⟨c, i, fun q hq => by cases hq; exact h⟩
  | 2 => obtain ⟨c, i, h⟩ := u_known (n := 2) hts in_X2 (hts (.instantiable RX2 2) (by decide +kernel)); exact ⟨c, i, fun q hq => by cases hq; exact h⟩
  | 3 => obtain ⟨c, i, h⟩ := u_known (n := 4) hts in_X3 (hts (.instantiable RX3 4) (by decide +kernel)); exact ⟨c, i, fun q hq => by cases hq; exact h⟩
  | 4 => obtain ⟨c, i, h⟩ := u_known (n := 3) hts in_X4 (hts (.instantiable RX4 3) (by decide +kernel)); exact ⟨c, i, fun q hq => by cases hq; exact h⟩
  | 5 => obtain ⟨c, i, h⟩ := u_known (n := 1) hts in_X6 (hts (.instantiable RX6 1) (by decide +kernel)); exact ⟨c, i, fun q hq => by cases hq; exact h⟩
  | 6 => obtain ⟨c, i, h⟩ := u_known (n := 6) hts in_X7 (hts (.instantiable RX7 6) (by decide +kernel)); exact ⟨c, i, fun q hq => by cases hq; exact h⟩
  | k + 7 => exact ⟨0, fun _ => 0, fun q hq => by cases hq⟩
def saOf (s : State) (k : Nat) : Nat := match (Term.string "Coppinghouse" k).eval #[] s none [] s with
  | some (.ref a) => a
  | _ => 0
theorem str_known {s : State} {args : Array Value} (h1 : ∀ q ∈ txts, (Cond.stringRef "Coppinghouse" q.1 q.2).before args s = true) (h2 : ∀ q ∈ txts, (Cond.exactly (.string "Coppinghouse" q.1) "java/lang/String").before args s = true) : ∀ q ∈ txts, vk_R "Coppinghouse" q.1 q.2 (saOf s q.1) s := by
  intro q hq
  obtain ⟨a, c, cell, k, ha, -⟩ := Cond.exactly_spec (h2 q hq)
  have h3 : vk_R "Coppinghouse" q.1 q.2 a s := vk_R.of (h1 q hq) ha
  have h4 := h3.2
  have h5 : saOf s q.1 = a := by
    unfold saOf
    rw [h4]
  rw [h5]
  exact h3
theorem env_start {s : State} {b L : Nat} {xs : Nat → Int32} (hts : ∀ w ∈ lw_tbl, w.before #[Value.ref b] s = true) (hX : va_X b L xs s s.heap) (hbl : b < s.heap.size) (hgv : (Jvm.Cond.and given_1 narrow_1).before #[Value.ref b] s = true) : ∃ dC dI cI cJ, EnvS dC dI cI cJ b s.heap.size L xs (saOf s) s := by
  have hfl := flat_of_before _ hgv
  obtain ⟨cI, kI, pI, i1, i2, i3⟩ := Cond.arrayClass_spec (hts (.arrayClass .int) (by decide +kernel))
  refine ⟨fun k => Classical.choose (cls_known hts k), fun k => Classical.choose (Classical.choose_spec (cls_known hts k)), cI, cI, ⟨fun k q hq => Classical.choose_spec (Classical.choose_spec (cls_known hts k)) q hq, fun k q hq => ?_⟩, hX, hbl, Nat.le_refl _, ?_, ?_, ?_, ?_, ?_⟩
  · match k, hq with
    | 0, hq => cases hq; exact ⟨fun n z => ⟨(fun k h => by cases h), kI, i2, pI, i3⟩, i1⟩
    | k + 1, hq => cases hq
  · exact vx_Zqof (hts _ (by decide +kernel)) (hts _ (by decide +kernel)) (hfl _ (by decide +kernel)) (fun a h1 h2 => Nat.lt_irrefl _ (Nat.lt_of_lt_of_le h1 h2))
  · exact vx_Zqof (hts _ (by decide +kernel)) (hts _ (by decide +kernel)) (hfl _ (by decide +kernel)) (fun a h1 h2 => Nat.lt_irrefl _ (Nat.lt_of_lt_of_le h1 h2))
  · refine str_known (args := #[Value.ref b]) (fun q hq => hts _ ?_) (fun q hq => hfl _ ?_)
    · have : ∀ q ∈ txts, Cond.stringRef "Coppinghouse" q.1 q.2 ∈ lw_tbl := by decide +kernel
      exact this q hq
    · have : ∀ q ∈ txts, Cond.exactly (.string "Coppinghouse" q.1) "java/lang/String" ∈ flatC (Jvm.Cond.and given_1 narrow_1) := by decide +kernel
      exact this q hq
  · intro w hw
    exact ng_moved hw (Vm.Alike.refl s.vm) (hts w (List.mem_filter.mp hw).1)
  · trivial
theorem no_traces {l : Launch} (h : l.flags = flags0) : l.stackTraces = false := by
  unfold Launch.stackTraces
  rw [h]
  decide +kernel
theorem whole_start (hT : Tab) (hOK : LawOK) {p : Program} {e : Env} {s : State} {m : MethodId} {below : List Frame} {meth : Method} {c : Code} (l : Launch) (hflags : l.flags = flags0) {b L : Nat} {xs : Nat → Int32} (hL : L ≤ 260) (hnm : meth.name = x.name) (hex : c.exceptionTable.toList = []) (C0 : lw_At p s m meth c b L xs) : W p l e room_1 s m #[Value.ref b] below meth c s.heap [] 0 0 (lw_Z below #[Value.ref b] s) (entryFrame m ([Value.ref b] : List Value).toArray 20) := by
  obtain ⟨hx, hb, hr, hml, hown, hts, hX, hbl, hlocks, hgv⟩ := C0
  obtain ⟨dC, dI, cI, cJ, hE⟩ := env_start hts hX hbl hgv
  obtain ⟨h, hev, hc, hz⟩ := hOK L xs hL
  have hs := snd_all (dC := dC) (dI := dI) (cI := cI) (cJ := cJ) (bs := b) (ba := s.heap.size) (Ls := L) (xs := xs) (sa := saOf s) hT (no_traces hflags) hev
  obtain ⟨ls, hen, hl⟩ := entry_lcs (m0 := m) (bs := b) (ba := s.heap.size) (as := [.ref 0]) (nL := 20) rfl (by decide)
  have hen' : entryFrame m ([Value.ref b] : List Value).toArray 20 = F0 m 0 ls [] := hen
  rw [hen']
  refine hs.2.2 p e room_1 s m #[Value.ref b] below meth c km_L_law s.heap [] 0 0 ls 1 L (lw_Z below #[Value.ref b] s) rfl ?_ ?_ ?_ ?_ ?_
  · refine ⟨hx, hb, hml, hr, hown, hlocks, hnm, hex, fun w hw => hts w (List.mem_filter.mp hw).1, hE, ?_, ?_⟩
    · exact Nat.le_of_ble_eq_true rfl
    · exact Nat.le_of_ble_eq_true rfl
  · refine ⟨⟨[], rfl, fun k q hq => (by cases hq), Nat.le_refl _⟩, va_S.rf, hl, rfl, ?_, fun _ => rfl⟩
    show 0 + L = 6 * 0 + (L + 0)
    omega
  · exact Nat.le_trans hc (Nat.le_of_ble_eq_true rfl)
  · exact Nat.le_trans hz (Nat.le_trans (Nat.le_of_ble_eq_true rfl : 7301314 ≤ 7301314 + 0) (Nat.add_le_add_left (Nat.zero_le L) _))
  · intro pc' ls' H' locs' cells' slots' hr1 hC hS hcc hzz
    refine va_forget hS.2.2 ?_
    refine W.widen (k := 600104) (n := 7301314) ?_ ?_ ?_
    · have hcc' : cells' + 1 = cnt h := hcc
      exact Nat.le_trans (Nat.le_succ _) (Nat.le_trans (Nat.le_of_eq hcc') hc)
    · have hzz' : slots' + L = slt h := hzz
      exact Nat.le_trans (Nat.le_add_right _ _) (Nat.le_trans (Nat.le_of_eq hzz') hz)
    · exact lw_ret hx hb hr hlocks hr1.1
end
