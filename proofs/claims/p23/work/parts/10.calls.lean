/-! SOUNDNESS: a callee's contract, and its calls. -/
section
variable {dC : Nat → ClassId} {dI : Nat → Nat → Nat} {cI cJ : ClassId} {bs ba Ls : Nat} {xs : Nat → Int32} {sa : Nat → Nat} {l : Launch}
/-- what a callee begins with -/
def Prc (dC : Nat → ClassId) (dI : Nat → Nat → Nat) (cI cJ : ClassId) (bs ba Ls : Nat) (xs : Nat → Int32) (sa : Nat → Nat) (h : AH) (U : State) : Prop :=
  EnvS dC dI cI cJ bs ba Ls xs sa U ∧ CorH dC dI cI cJ bs ba Ls xs h U.heap ∧ (h.1 = 0 → U.heap.size + 1 = ba + h.2.length)
theorem entry_lcs {m0 : MethodId} {as : List Value} {nL : Nat} (hc : as.all cat1 = true) (hn : as.length ≤ nL) : ∃ ls : Array Slot, entryFrame m0 (as.map (vmp bs ba)).toArray nL = F0 m0 0 ls [] ∧ lcs bs ba (as ++ List.replicate (nL - as.length) jk) ls nL := by
  have hcat : ∀ v ∈ as.map (vmp bs ba), v.category = 1 := by
    intro v hv
    obtain ⟨u, hu, rfl⟩ := List.mem_map.mp hv
    have := List.all_eq_true.mp hc u hu
    rw [vmp_cat]
    cases u <;> first | rfl | cases this
  refine ⟨_, entry_eq m0 _ hcat nL, ?_⟩
  have hsz : ((as.map (vmp bs ba)).map Slot.val ++ List.replicate (nL - (as.map (vmp bs ba)).length) Slot.unset).length = nL := by simp; omega
  have hget : ∀ (i : Nat) (x : Slot), ((as.map (vmp bs ba)).map Slot.val ++ List.replicate (nL - (as.map (vmp bs ba)).length) Slot.unset).toArray[i]? = some x → x = .unset ∨ ∃ v, as[i]? = some v ∧ x = .val (vmp bs ba v) := by
    intro i x hx
    rw [List.getElem?_toArray, List.getElem?_append] at hx
    split at hx
    · rw [List.getElem?_map, List.getElem?_map] at hx
      cases hv : as[i]? with
      | none => rw [hv] at hx; cases hx
      | some v =>
        rw [hv] at hx
        exact Or.inr ⟨v, rfl, (Option.some.inj hx).symm⟩
    · left
      have := List.mem_of_getElem? hx
      exact (List.mem_replicate.mp this).2
  refine ⟨by simp; omega, ⟨by rw [List.size_toArray]; exact hsz, ⟨fun i v hv hcv => ?_, fun i hi => ?_⟩, fun q hq => ?_⟩, fun v hv => ?_⟩
  · rcases hget i _ hv with h | ⟨u, hu, hx⟩
    · cases h
    · have e : v = vmp bs ba u := by injection hx
      rw [hcat v (by rw [e]; exact List.mem_map_of_mem (List.mem_of_getElem? hu))] at hcv
      cases hcv
  · rcases hget i _ hi with h | ⟨u, hu, hx⟩
    · cases h
    · cases hx
  · obtain ⟨n, w⟩ := q
    obtain ⟨j, v, h1, h2, h3, h4⟩ := (prsF_mem bs ba _ 0 n w).mp hq
    have hnj : n = j := by omega
    subst hnj
    subst h4
    rw [List.getElem?_append] at h1
    split at h1
    · rename_i hlt
      show _ = some (Slot.val (vmp bs ba v))
      obtain ⟨_, e9⟩ := List.getElem?_eq_some_iff.mp h1
      rw [List.getElem?_toArray, List.getElem?_append]
      simp [hlt, e9]
    · have := List.mem_of_getElem? h1
      exact absurd (List.mem_replicate.mp this).2 (h2 0)
  · rcases List.mem_append.mp hv with h | h
    · have := List.all_eq_true.mp hc v h
      cases v <;> first | rfl | cases this
    · rw [(List.mem_replicate.mp h).2]; rfl
def rmC (d mc ms : Nat) : Room := { frames := d + 2, cells := mc, slots := ms, locals := 39 * d + 33 }
def QcI (dC : Nat → ClassId) (dI : Nat → Nat → Nat) (cI cJ : ClassId) (bs ba Ls : Nat) (xs : Nat → Int32) (o : Ou) (r : Int32) : Array Value → State → Outcome → State → Prop :=
  va_Qi (fun r' (_ : Unit) => o.1 = .inl (some (.int r)) ∧ r' = r) (fun _ t => CorH dC dI cI cJ bs ba Ls xs o.2 t.heap) (fun q => ba ≤ q)
def QcV (dC : Nat → ClassId) (dI : Nat → Nat → Nat) (cI cJ : ClassId) (bs ba Ls : Nat) (xs : Nat → Int32) (o : Ou) : Array Value → State → Outcome → State → Prop :=
  va_Qv (fun (_ : Unit) => o.1 = .inl none) (fun _ t => CorH dC dI cI cJ bs ba Ls xs o.2 t.heap) (fun q => ba ≤ q)
def XcE (dC : Nat → ClassId) (dI : Nat → Nat → Nat) (cI cJ : ClassId) (bs ba Ls : Nat) (xs : Nat → Int32) (o : Ou) : String → State → State → Prop :=
  vx_X (fun (_ : Unit) => True) (fun E' _ t => ∃ E, o.1 = .inr E ∧ E' = exn E ∧ CorH dC dI cI cJ bs ba Ls xs o.2 t.heap) (fun q => ba ≤ q)
/-- the end of a callee that gives an int or nothing -/
theorem gl_ret {p : Program} {e : Env} {R : Room} {s : State} {m : MethodId} {args : Array Value} {below : List Frame} {meth : Method} {c : Code} {M : Mt} {n0 z0 : Nat} {o : Ou} {Qc : Array Value → State → Outcome → State → Prop} {XC : String → State → State → Prop} {mc ms : Nat}
    (hx : p.tables.exec = Jvm.exec) (hb : c.code = M.2.1) (hret : meth.sig.returnType = M.2.2.2.1) (hlk : meth.locks = false) (hmc : mc + n0 = cnt o.2) (hms : ms + z0 = slt o.2)
    (hI : ∀ r, o.1 = .inl (some (.int r)) → ∀ t : State, CorH dC dI cI cJ bs ba Ls xs o.2 t.heap → va_F (fun q => ba ≤ q) s t → Qc args s (.returned (some (.int r))) t)
    (hV : o.1 = .inl none → ∀ t : State, CorH dC dI cI cJ bs ba Ls xs o.2 t.heap → va_F (fun q => ba ≤ q) s t → Qc args s (.returned none) t)
    (hX : ∀ E, o.1 = .inr E → ∀ t : State, s.vm.Alike t.vm → CorH dC dI cI cJ bs ba Ls xs o.2 t.heap → va_F (fun q => ba ≤ q) s t → XC (exn E) s t) :
    Gl dC dI cI cJ bs ba Ls xs l p e R s m args below meth c M n0 z0 o (vx_MQ below Qc XC args s mc ms (fun q => ba ≤ q)) := by
  obtain ⟨o1, h1⟩ := o
  cases o1 with
  | inr E => exact ⟨Qc, XC, mc, ms, rfl, hX E rfl, by omega, by omega⟩
  | inl v =>
    intro pc' ls' H' locs' cells' slots' hr hC hS hc hz
    dsimp only at hC hS hc hz hmc hms hI hV
    have e1 : cells' = mc := by omega
    have e2 : slots' = ms := by omega
    subst e1
    subst e2
    cases v with
    | none =>
      obtain ⟨hd, hrt⟩ := hr
      exact vx_ret (W.vret hx hb (hret.trans hrt) (fun t ht _ => hV rfl t (by rw [ht]; exact hC) (hS.F ht)) hS.2.2 hd hlk)
    | some w =>
      cases w with
      | int r =>
        obtain ⟨hd, hrt⟩ := hr
        cases hm : M.2.2.2.1 with
        | none => rw [hm] at hrt; cases hrt
        | some ty =>
          rw [hm] at hrt hret
          have hn : narrow ty (.int r) = .int r := by
            cases ty <;> first | rfl | (cases hrt; done) | skip
            have h9 : r &&& 1 = r := of_decide_eq_true hrt
            show Value.int (r &&& 1) = .int r
            rw [h9]
          exact vx_ret (W.zret hx hb hret hn (fun t ht _ => hI r rfl t (by rw [ht]; exact hC) (hS.F ht)) hS.2.2 hd hlk)
      | _ => exact hr.elim
/-- a callee's contract -/
theorem met_of {d y : Nat} {Y : Mt} {as : List Value} {h : AH} {o : Ou} {Qc : Array Value → State → Outcome → State → Prop} {XC : String → State → State → Prop} (hY : mAt y = some Y) (hcl : plainName Y.1.cls = true) (hown : Y.1.cls = Y.2.2.2.2.2.1) (hc1 : as.all cat1 = true) (hal : as.length ≤ Y.2.2.1)
    (hs : Snd dC dI cI cJ bs ba Ls xs sa l d y (ent0 y as h) o)
    (hI : ∀ (a : Array Value) (s t : State) r, o.1 = .inl (some (.int r)) → CorH dC dI cI cJ bs ba Ls xs o.2 t.heap → va_F (fun q => ba ≤ q) s t → Qc a s (.returned (some (.int r))) t)
    (hV : ∀ (a : Array Value) (s t : State), o.1 = .inl none → CorH dC dI cI cJ bs ba Ls xs o.2 t.heap → va_F (fun q => ba ≤ q) s t → Qc a s (.returned none) t)
    (hX : ∀ (s t : State) E, o.1 = .inr E → s.vm.Alike t.vm → CorH dC dI cI cJ bs ba Ls xs o.2 t.heap → va_F (fun q => ba ≤ q) s t → XC (exn E) s t) :
    vx_Met l Y.1 (cdW Y :: TG) (rmC d (cnt o.2 - cnt h) (slt o.2 - slt h)) (va_Pc (as.map (vmp bs ba)) (Prc dC dI cI cJ bs ba Ls xs sa h)) Qc XC (cnt o.2 - cnt h) (slt o.2 - slt h) (fun q => ba ≤ q) := by
  have body : ∀ p e s m args below meth c s₁, BodyLoose p l Y.1 (headSpec (cdW Y :: TG) (rmC d (cnt o.2 - cnt h) (slt o.2 - slt h))) Y.2.1 Y.2.2.1 Y.2.2.2.1 e s m args below meth c s₁ → c.maxLocals = Y.2.2.1 → c.exceptionTable.toList = tableOf Y.2.2.2.2.1 → va_Pc (as.map (vmp bs ba)) (Prc dC dI cI cJ bs ba Ls xs sa h) args s →
      W p l e (rmC d (cnt o.2 - cnt h) (slt o.2 - slt h)) s m args below meth c s.heap [] 0 0 (vx_MQ below Qc XC args s (cnt o.2 - cnt h) (slt o.2 - slt h) (fun q => ba ≤ q)) (entryFrame m args Y.2.2.1) := by
    intro p e s m args below meth c s₁ B hml hex hv
    obtain ⟨rfl, hE, hC, hsz⟩ := hv
    obtain ⟨hm, -, hk⟩ := hs
    have hts := atoms_spec (ws := cdW Y :: TG) B.pre
    obtain ⟨ls, hen, hl⟩ := entry_lcs (m0 := m) (bs := bs) (ba := ba) hc1 hal
    rw [hen]
    have hm1 : cnt h ≤ cnt o.2 := hm.2.1
    have hm2 : slt h ≤ slt o.2 := hm.2.2
    have hmx : maxLOf y = Y.2.2.1 := by unfold maxLOf; rw [hY]
    refine hk p e (rmC d (cnt o.2 - cnt h) (slt o.2 - slt h)) s m _ below meth c Y s.heap [] 0 0 ls (cnt h) (slt h) _ hY ?_ ?_ ?_ ?_ ?_
    · refine ⟨B.exec, B.bytes, hml, B.returns, ?_, B.notSynchronized, (name_of_methodNamed B.named B.method).1, hex, fun w hw => hts w (List.mem_cons_of_mem _ hw), hE, Nat.le_refl _, Nat.le_refl _⟩
      rw [← hown]
      exact findClass_of_methodNamed B.named
    · refine ⟨hC, va_S.rf, ?_, Nat.zero_add _, Nat.zero_add _, fun h0 => (by have h9 : s.heap.size + 1 = ba + h.2.length := hsz h0; show s.heap.size + 0 + 1 = ba + h.2.length; omega)⟩
      show lcs bs ba (as ++ List.replicate (maxLOf y - as.length) jk) ls Y.2.2.1
      rw [hmx]
      exact hl
    · show cnt o.2 ≤ cnt o.2 - cnt h + cnt h
      omega
    · show slt o.2 ≤ slt o.2 - slt h + slt h
      omega
    · exact gl_ret B.exec B.bytes B.returns B.notSynchronized (by omega) (by omega) (fun r hr t => hI _ s t r hr) (fun hr t => hV _ s t hr) (fun E hE t => hX s t E hE)
  cases hh : Y.2.2.2.2.1 with
  | nil =>
    have hcd : cdW Y = .code Y.1 Y.2.1 Y.2.2.1 Y.2.2.2.1 := by unfold cdW; rw [hh]
    rw [hcd] at body ⊢
    exact vx_ofW hcl rfl (fun p e s m args below meth c s₁ B hml ht hv => body p e s m args below meth c s₁ B hml (by
      rw [hh]
      cases hx : c.exceptionTable.toList with
      | nil => rfl
      | cons a b => exact absurd (ht a (by rw [hx]; exact List.mem_cons_self)) id) hv)
  | cons q hl9 =>
    have hcd : cdW Y = .codeWith Y.1 Y.2.1 Y.2.2.1 Y.2.2.2.1 (q :: hl9) := by unfold cdW; rw [hh]
    rw [hcd] at body ⊢
    refine vx_ofWH hcl rfl (fun p e s m args below meth c s₁ B hml hv => ?_)
    have htab : c.exceptionTable.toList = tableOf (q :: hl9) := vx_table (x := Y.1) B (atoms_spec (ws := .codeWith Y.1 Y.2.1 Y.2.2.1 Y.2.2.2.1 (q :: hl9) :: TG) B.pre _ List.mem_cons_self)
    refine body p e s m args below meth c s₁ B hml ?_ hv
    rw [hh]
    exact htab
theorem Prc.blind {h : AH} {as : List Value} : FrameBlind (va_Pc as (Prc dC dI cI cJ bs ba Ls xs sa h)) := by
  intro a U g mk q
  obtain ⟨q0, q1, q2, q3⟩ := q
  exact ⟨q0, EnvS.moved (U := U.calling g mk a) q1 (State.WarmedH.refl U) (Nat.le_refl _) (fun _ _ _ => rfl), q2, q3⟩
end
