/-! SOUNDNESS: the whole. -/
section
variable (dC : Nat → ClassId) (dI : Nat → Nat → Nat) (cI cJ : ClassId) (bs ba Ls : Nat) (xs : Nat → Int32) (sa : Nat → Nat) (l : Launch)
def rAt1 (M : Mt) (pc' : Nat) (v : Option Value) : Prop := match v with
  | some (.int r) => decode M.2.1 pc' = .ok (.ireturn, 1) ∧ rtok M.2.2.2.1 r = true
  | none => decode M.2.1 pc' = .ok (.return_, 1) ∧ M.2.2.2.1 = none
  | _ => False
/-- the end Q is met by an outcome -/
def Gl (p : Program) (e : Env) (R : Room) (s : State) (m : MethodId) (args : Array Value) (below : List Frame) (meth : Method) (c : Code) (M : Mt) (n0 z0 : Nat) (o : Ou) (Q : State → Prop) : Prop := match o.1 with
  | .inl v => ∀ pc' ls' H' locs' cells' slots', rAt1 M pc' v → CorH dC dI cI cJ bs ba Ls xs o.2 H' → va_S (fun q => ba ≤ q) s.heap H' locs' → cells' + n0 = cnt o.2 → slots' + z0 = slt o.2 → W p l e R s m args below meth c H' locs' cells' slots' Q (F0 m pc' ls' v.toList)
  | .inr E => ∃ Qc XC mc ms, Q = vx_MQ below Qc XC args s mc ms (fun q => ba ≤ q) ∧ (∀ t : State, s.vm.Alike t.vm → CorH dC dI cI cJ bs ba Ls xs o.2 t.heap → va_F (fun q => ba ≤ q) s t → XC (exn E) s t) ∧ cnt o.2 ≤ mc + n0 ∧ slt o.2 ≤ ms + z0
def Snd (d k : Nat) (cf : Cf) (o : Ou) : Prop :=
  mono cf.2.2.2 o.2 ∧ (∀ E, o.1 = .inr E → E < 3) ∧
  ∀ p e R s m args below meth c M H locs cells slots ls n0 z0 Q, mAt k = some M → SndC dC dI cI cJ bs ba Ls xs sa d p R s m args meth c M → SndS dC dI cI cJ bs ba Ls xs s M.2.2.1 n0 z0 cf.2.2.2 cf.2.1 H locs cells slots ls → cnt o.2 ≤ R.cells + n0 → slt o.2 ≤ R.slots + z0 →
    Gl dC dI cI cJ bs ba Ls xs l p e R s m args below meth c M n0 z0 o Q → W p l e R s m args below meth c H locs cells slots Q (F0 m cf.1 ls (cf.2.2.1.map (vmp bs ba)))
variable {dC dI cI cJ bs ba Ls xs sa l}
theorem mono_thr {h : AH} : mono h (h.1 + 1, h.2) := ⟨Nat.le_succ _, by show h.1 + h.2.length ≤ h.1 + 1 + h.2.length; omega, by show 6 * h.1 + (h.2.map osz).sum ≤ 6 * (h.1 + 1) + (h.2.map osz).sum; omega⟩
theorem fin_ret {k : Nat} (hT : Tab) (hl : l.stackTraces = false) {d : Nat} {M : Mt} {pc : Nat} {r : Rw} {L S : List Value} {h : AH} {o : Ou} (hM : mAt k = some M) (hr : rAtM M pc = some r) (hf : fin M r S h = some o) : Snd dC dI cI cJ bs ba Ls xs sa l d k (pc, L, S, h) o := by
  obtain ⟨hok, hwd⟩ := row_ok hT hM hr
  obtain ⟨i, n, x1, x2, x3⟩ := r
  unfold rok at hok
  obtain ⟨hd0, hrk⟩ := nat_and hok
  clear hok
  have hd : decode M.2.1 pc = .ok (i, ilen i n) := of_decide_eq_true hd0
  cases i
  case ireturn =>
    simp only [fin] at hf
    split at hf
    · rename_i v
      split at hf
      · rename_i hv
        cases hf
        refine ⟨mono.rf, fun E hE => (by cases hE), ?_⟩
        intro p e R s m args below meth c M' H locs cells slots ls n0 z0 Q hM' F X hc hz hG
        cases hM.symm.trans hM'
        exact hG pc ls H locs cells slots ⟨hd, hv⟩ X.1 X.2.1 X.2.2.2.1 X.2.2.2.2.1
      · cases hf
    · cases hf
  case return_ =>
    simp only [fin] at hf
    split at hf
    · rename_i hrt
      cases hf
      refine ⟨mono.rf, fun E hE => (by cases hE), ?_⟩
      intro p e R s m args below meth c M' H locs cells slots ls n0 z0 Q hM' F X hc hz hG
      cases hM.symm.trans hM'
      exact hG pc ls H locs cells slots ⟨hd, hrt⟩ X.1 X.2.1 X.2.2.2.1 X.2.2.2.2.1
    · cases hf
  case new idx =>
    simp only [fin] at hf
    split at hf
    · rename_i hx
      obtain ⟨E9, hE9⟩ : ∃ E9, E9 = x1 - 1000 := ⟨_, rfl⟩
      have ho : o = (.inr E9, (h.1 + 1, h.2)) := by rw [hE9]; exact (Option.some.inj hf).symm
      clear hf
      subst ho
      have h1000 : 1000 ≤ x1 := Nat.le_of_ble_eq_true hx
      have h8 : ¬ x1 < 8 := by omega
      have hrk2 : (Nat.ble 1000 x1 && thr M pc idx E9 x2 x3) = true := by
        have := hrk
        dsimp only at this
        rw [if_neg h8] at this
        rw [hE9]
        exact this
      have hth := (nat_and hrk2).2
      clear hrk hrk2
      unfold thr at hth
      obtain ⟨hth, t9⟩ := nat_and hth
      obtain ⟨hth, t8⟩ := nat_and hth
      obtain ⟨hth, t7⟩ := nat_and hth
      obtain ⟨hth, t6⟩ := nat_and hth
      obtain ⟨hth, t5⟩ := nat_and hth
      obtain ⟨hth, t4⟩ := nat_and hth
      obtain ⟨hth, t3⟩ := nat_and hth
      obtain ⟨t1, t2⟩ := nat_and hth
      have hE3 : E9 < 3 := Nat.blt_eq.mp t1
      have hEE : ∀ E, (Sum.inr E9 : Option Value ⊕ Nat) = Sum.inr E → E < 3 := fun E hE => by
        have h9 : E9 = E := Sum.inr.inj hE
        rw [← h9]
        exact hE3
      have hwA : ∀ w ∈ ([.classLink "Coppinghouse" idx (exn E9), .initialized (exn E9)] : List Jvm.Cond), w ∈ TG := fun w hw => hwd w (by
        simp only [rwd]
        rw [if_neg h8, ← hE9]
        exact hw)
      clear hE9 hwd
      refine ⟨mono_thr, hEE, ?_⟩
      intro p e R s m args below meth c M' H locs cells slots ls n0 z0 Q hM' F X hc hz hG
      cases hM.symm.trans hM'
      obtain ⟨hxx, hb, hml, hret, hown, hlk, hnm, hex, hts, hEn, hfr, hlo⟩ := F
      obtain ⟨hC, hS, hL, hcc, hsl, hex0⟩ := X
      obtain ⟨Qc, XC, mc, ms, rfl, hXC, hmc, hms⟩ := hG
      obtain ⟨a1, a2, a3, a4, a5, a6, a7, a8, a9⟩ := hEn
      have hown2 : M.2.2.2.2.2.1 = "Coppinghouse" := of_decide_eq_true t2
      rw [hown2] at hown
      have hw1 := hts (.classLink "Coppinghouse" idx (exn E9)) (hwA _ List.mem_cons_self)
      have hw2 := hts (.initialized (exn E9)) (hwA _ (List.mem_cons_of_mem _ List.mem_cons_self))
      obtain ⟨tx, htx⟩ : ∃ tx, (x2, tx) ∈ txts := by
        have h5 : x2 ∈ txts.map (·.1) := List.contains_iff_mem.mp t9
        obtain ⟨q, hq, hq2⟩ := List.mem_map.mp h5
        exact ⟨q.2, by rw [← hq2]; exact hq⟩
      have hfit : Bundle.fit (exn E9) = true := by
        rcases (show E9 = 0 ∨ E9 = 1 ∨ E9 = 2 by omega) with q | q | q <;> rw [q] <;> decide +kernel
      have hfits : ∀ n ∈ xnames, Bundle.fit n = true := by decide +kernel
      have hat : ∀ w ∈ vx_atS "Coppinghouse" x3 (exn E9) xnames, w.before args s = true := fun w hw => by
        rcases thw_ok t8 w hw with h9 | h9
        · exact hts w h9
        · exact ng_moved h9 (Vm.Alike.refl s.vm) (a8 w h9)
      have hcn : cnt (h.1 + 1, h.2) = cnt h + 1 := by show h.1 + 1 + h.2.length = h.1 + h.2.length + 1; omega
      have hsn : slt (h.1 + 1, h.2) = slt h + 6 := by show 6 * (h.1 + 1) + (h.2.map osz).sum = 6 * h.1 + (h.2.map osz).sum + 6; omega
      change cnt (h.1 + 1, h.2) ≤ R.cells + n0 at hc
      change slt (h.1 + 1, h.2) ≤ R.slots + z0 at hz
      change cnt (h.1 + 1, h.2) ≤ mc + n0 at hmc
      change slt (h.1 + 1, h.2) ≤ ms + z0 at hms
      change cells + n0 = cnt h at hcc
      change slots + z0 = slt h at hsl
      rw [hcn] at hc hmc
      rw [hsn] at hz hms
      have hgood : ∀ w ∈ Cond.classLink "Coppinghouse" idx (exn E9) :: Cond.initialized (exn E9) :: vx_atS "Coppinghouse" x3 (exn E9) xnames, vx_ot w = true := by
        intro w hw
        rcases List.mem_cons.mp hw with rfl | hw
        · rfl
        · rcases List.mem_cons.mp hw with rfl | hw
          · rfl
          · exact thw_ot t8 w hw
      have hhh : M.2.2.2.2.1 = [] := of_decide_eq_true t7
      have htab : ∀ x ∈ c.exceptionTable.toList, covers x (pc + 9) = false := by
        rw [hex, hhh]
        intro x hx
        cases hx
      refine vx_throwS (own := "Coppinghouse") (cls := exn E9) (text := tx) (names := xnames) (ik := idx) (is := x2) (ic := x3) (sa := sa x2) (A := fun q => ba ≤ q) hxx hb hl hown hfit hfits hw1 hw2 (a7 (x2, tx) htx) hat hgood a5 a6 hS (hL.2.1.1.trans hml.symm) hd (of_decide_eq_true t3) (of_decide_eq_true t4) (of_decide_eq_true t5) (of_decide_eq_true t6) htab ?_ ?_ (by omega) (by omega) hlk ?_ hS.2.2 (by omega) (by omega)
      · show 2 + 3 < R.frames
        omega
      · show 0 + (13 * (2 + 1) + 43) ≤ R.locals
        omega
      · intro t hal hsz hkp
        have hS1 := hS.1
        refine hXC t hal ?_ ⟨Nat.le_trans hS1 hsz, fun q h1 h2 => (hkp q (Nat.lt_of_lt_of_le h1 hS1)).trans (hS.2.1 q h1 h2)⟩
        obtain ⟨tt, h1, h2, h3⟩ := hC
        exact ⟨tt, h1, h2.kept (fun k q hq => hkp q.1 (h2 k q hq).lt), Nat.le_trans h3 hsz⟩
    · cases hf
  all_goals cases hf
end
