/-! SOUNDNESS: the whole. -/
section
variable (dC : Nat → ClassId) (dI : Nat → Nat → Nat) (cI cJ : ClassId) (bs ba Ls : Nat) (xs : Nat → Int32) (sa : Nat → Nat) (l : Launch)
def rAt1 (M : Mt) (pc' : Nat) (v : Option Value) : Prop := match v with
  | some (.int r) => decode M.2.1 pc' = .ok (.ireturn, 1) ∧ rtok M.2.2.2.1 r = true
  | none => decode M.2.1 pc' = .ok (.return_, 1) ∧ M.2.2.2.1 = none
  | _ => False
/-- the end Q is met by an outcome -/
def Gl (p : Program) (e : Env) (R : Room) (s : State) (m : MethodId) (args : Array Value) (below : List Frame) (meth : Method) (c : Code) (M : Mt) (n0 z0 : Nat) (o : Ou) (Q : State → Prop) : Prop := match o.1 with
  | .inl v => ∀ pc' ls' H' locs' cells' slots', rAt1 M pc' v → CorH dC dI cI cJ bs ba Ls xs o.2 H' → va_S (fun q => ba ≤ q) s.heap H' locs' → cells' + n0 = cnt o.2 → slots' + z0 = slt o.2 → W p l e R s m args below meth c H' locs' cells' slots' Q (F0 m pc' ls' v.toList)
  | .inr E => ∃ Qc XC mc ms, Q = vx_MQ below Qc XC args s mc ms (fun q => ba ≤ q) ∧ (∀ t : State, s.vm.Alike t.vm → CorH dC dI cI cJ bs ba Ls xs o.2 t.heap → va_F (fun q => ba ≤ q) s t → XC (exn E) s t) ∧ cnt o.2 ≤ mc + n0 ∧ slt o.2 ≤ ms + z0
def Snd (d k : Nat) (cf : Cf) (o : Ou) : Prop :=
  mono cf.2.2.2 o.2 ∧ (∀ E, o.1 = .inr E → E < 3) ∧
  ∀ p e R s m args below meth c M H locs cells slots ls n0 z0 Q, mAt k = some M → SndC dC dI cI cJ bs ba Ls xs sa d p R s m args meth c M → SndS dC dI cI cJ bs ba Ls xs s M.2.2.1 n0 z0 cf.2.2.2 cf.2.1 H locs cells slots ls → cnt o.2 ≤ R.cells + n0 → slt o.2 ≤ R.slots + z0 →
    Gl dC dI cI cJ bs ba Ls xs l p e R s m args below meth c M n0 z0 o Q → W p l e R s m args below meth c H locs cells slots Q (F0 m cf.1 ls (cf.2.2.1.map (vmp bs ba)))
variable {dC dI cI cJ bs ba Ls xs sa l}
theorem mono_thr {h : AH} : mono h (h.1 + 1, h.2) := ⟨Nat.le_succ _, by show h.1 + h.2.length ≤ h.1 + 1 + h.2.length; omega, by show 6 * h.1 + (h.2.map osz).sum ≤ 6 * (h.1 + 1) + (h.2.map osz).sum; omega⟩
theorem fin_ret {k : Nat} (hT : Tab) (hl : l.stackTraces = false) {d : Nat} {M : Mt} {pc : Nat} {r : Rw} {L S : List Value} {h : AH} {o : Ou} (hM : mAt k = some M) (hr : rAtM M pc = some r) (hf : fin M r S h = some o) : Snd dC dI cI cJ bs ba Ls xs sa l d k (pc, L, S, h) o := by
  obtain ⟨hok, hwd⟩ := row_ok hT hM hr
  obtain ⟨i, n, x1, x2, x3⟩ := r
  unfold rok at hok
  obtain ⟨hd0, hrk⟩ := nat_and hok
  clear hok
  have hd : decode M.2.1 pc = .ok (i, ilen i n) := of_decide_eq_true hd0
  cases i
  case ireturn =>
    simp only [fin] at hf
    split at hf
    · rename_i v
      split at hf
      · rename_i hv
        cases hf
        refine ⟨mono.rf, fun E hE => (by cases hE), ?_⟩
        intro p e R s m args below meth c M' H locs cells slots ls n0 z0 Q hM' F X hc hz hG
        cases hM.symm.trans hM'
        exact hG pc ls H locs cells slots ⟨hd, hv⟩ X.1 X.2.1 X.2.2.2.1 X.2.2.2.2.1
      · cases hf
    · cases hf
  case return_ =>
    simp only [fin] at hf
    split at hf
    · rename_i hrt
      cases hf
      refine ⟨mono.rf, fun E hE => (by cases hE), ?_⟩
      intro p e R s m args below meth c M' H locs cells slots ls n0 z0 Q hM' F X hc hz hG
      cases hM.symm.trans hM'
      exact hG pc ls H locs cells slots ⟨hd, hrt⟩ X.1 X.2.1 X.2.2.2.1 X.2.2.2.2.1
    · cases hf
  all_goals cases hf
end
