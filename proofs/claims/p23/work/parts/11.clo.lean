/-! SOUNDNESS: closed. -/
section
variable {dC : Nat → ClassId} {dI : Nat → Nat → Nat} {cI cJ : ClassId} {bs ba Ls : Nat} {xs : Nat → Int32} {sa : Nat → Nat} {l : Launch}
variable {p : Program} {e : Env} {R : Room} {s : State} {m : MethodId} {args : Array Value} {below : List Frame} {meth : Method} {c : Code} {H : Heap} {locs : List Loc} {cells slots n0 z0 : Nat} {ls : Array Slot} {Q : State → Prop} {h : AH} {L S : List Value} {M : Mt} {pc : Nat}
theorem W_sz {g : JFrame} (k : H.size ≤ s.heap.size + cells → W p l e R s m args below meth c H locs cells slots Q g) : W p l e R s m args below meth c H locs cells slots Q g := fun T hT X => k (by rw [← hT]; exact X.heapSize) T hT X
theorem met_plain {y : MethodName} {ws : List Jvm.Cond} {rm : Room} {Pc : Array Value → State → Prop} {Qc : Array Value → State → Outcome → State → Prop} {mc ms : Nat} {free : Addr → Prop} (hM : vx_Met l y ws rm Pc Qc (fun _ _ _ => False) mc ms free) : Met l y ws rm Pc Qc mc ms free := by
  intro p e h1 h2 h3 s m args below h4 h5 h6 h7
  obtain ⟨n, o, a1, a2, a3, a4⟩ := hM p e h1 h2 h3 s m args below h4 h5 h6 h7
  refine ⟨n, o, a1, a2, a3, ?_⟩
  rcases a4 with h | ⟨q, -, E, ce, L, hx, -⟩
  · exact h
  · exact hx.elim
theorem take_stack {n : Nat} {rest : List Value} {a : Nat} (hd : S.drop n = .ref a :: rest) : S.map (vmp bs ba) = (((S.take n).reverse.map (vmp bs ba))).reverse ++ .ref (adr bs ba a) :: rest.map (vmp bs ba) := by
  conv => lhs; rw [← List.take_append_drop n S]
  rw [hd, List.map_append, ← List.map_reverse, List.reverse_reverse]
  rfl
theorem take_len {n : Nat} {x : Value} {rest : List Value} (hd : S.drop n = x :: rest) : (S.take n).length = n := by
  have : n < S.length := by
    rcases Nat.lt_or_ge n S.length with h | h
    · exact h
    · rw [List.drop_eq_nil_of_le h] at hd; cases hd
  rw [List.length_take]
  omega
theorem inTG1 {ws : List Jvm.Cond} (h : ∀ w ∈ ws, w ∈ TG) : GoodIn TG ws := fun w hw => ⟨h w hw, TG_at (h w hw)⟩
set_option maxRecDepth 8000 in
theorem rm_aux {d mx x : Nat} (h : 39 * (d + 1) + 33 ≤ x) (hm : mx ≤ 20) : 8 + (mx + 11) + (39 * d + 33) ≤ x := by
  rw [Nat.mul_succ] at h
  generalize 39 * d = y at *
  omega
/-- ONE CALL -/
theorem call_run {k : Nat} (hT : Tab) {d : Nat} {r : Rw} {y : Nat} {as rest : List Value} {o1 : Ou} {Qc : Array Value → State → Outcome → State → Prop} {XC : String → State → State → Prop} (hM : mAt k = some M) (hr : rAtM M pc = some r) (hs : cll r S h = some (y, as, rest)) (hlen : rest.length ≤ 4)
    (F : SndC dC dI cI cJ bs ba Ls xs sa (d + 1) p R s m args meth c M) (X : SndS dC dI cI cJ bs ba Ls xs s M.2.2.1 n0 z0 h L H locs cells slots ls)
    (e1 : Snd dC dI cI cJ bs ba Ls xs sa l d y (ent0 y as h) o1) (hsp : nsp r = true ∨ ∃ v, o1.1 = .inl v) (hc : cnt o1.2 ≤ R.cells + n0) (hz : slt o1.2 ≤ R.slots + z0) (hH : h.1 = 0 → H.size + 1 = ba + h.2.length)
    (hI : ∀ (a : Array Value) (s t : State) r, o1.1 = .inl (some (.int r)) → CorH dC dI cI cJ bs ba Ls xs o1.2 t.heap → va_F (fun q => ba ≤ q) s t → Qc a s (.returned (some (.int r))) t)
    (hV : ∀ (a : Array Value) (s t : State), o1.1 = .inl none → CorH dC dI cI cJ bs ba Ls xs o1.2 t.heap → va_F (fun q => ba ≤ q) s t → Qc a s (.returned none) t)
    (hX : ∀ (s t : State) E, o1.1 = .inr E → s.vm.Alike t.vm → CorH dC dI cI cJ bs ba Ls xs o1.2 t.heap → va_F (fun q => ba ≤ q) s t → XC (exn E) s t) :
    ∃ aa, vx_Run p l e R s m args below meth c H locs cells slots (cnt o1.2 - cnt h) (slt o1.2 - slt h) (F0 m pc ls (S.map (vmp bs ba))) (rest.map (vmp bs ba)) (Qc aa) XC (fun q => ba ≤ q) := by
  obtain ⟨hx, hb, hml, hret, hown, hlk, hnm, hex, hts, hE, hfr, hlo⟩ := F
  obtain ⟨hC, hS, hL, hcc, hsl, hex0⟩ := X
  obtain ⟨hok, hwd⟩ := row_ok hT hM hr
  obtain ⟨i, n, x1, x2, x3⟩ := r
  unfold rok at hok
  obtain ⟨hd0, hrk⟩ := nat_and hok
  clear hok
  have hd : decode M.2.1 pc = .ok (i, ilen i n) := of_decide_eq_true hd0
  have hmo := e1.1
  have hm1 : cnt h ≤ cnt o1.2 := hmo.2.1
  have hm2 : slt h ≤ slt o1.2 := hmo.2.2
  have hfit : cells + (cnt o1.2 - cnt h) ≤ R.cells ∧ slots + (slt o1.2 - slt h) ≤ R.slots := ⟨by omega, by omega⟩
  have hfx : CallFix p m c M.2.1 M.2.2.1 s args TG M.2.2.2.2.2.1 := ⟨hx, hb, hml, hown, hts⟩
  have hrm : 2 * (F0 m pc ls (S.map (vmp bs ba))).monitorRoom + ((rest.map (vmp bs ba)).map fun v => v.category).sum ≤ 8 := lv_room (by have := cat_sum bs ba rest; omega)
  have hpre : ∀ U : State, U.heap = H → s.WarmedH U.vm → Prc dC dI cI cJ bs ba Ls xs sa h U := fun U hU hW => ⟨EnvS.moved hE hW (by rw [hU]; exact hS.1) (by rw [hU]; exact hS.2.1), by rw [hU]; exact hC, fun h0 => (congrArg (fun z : Heap => z.size + 1) hU).trans (hH h0)⟩
  have hrA : d + 2 + 1 ≤ R.frames := by have := hfr; omega
  have hrB : ∀ mx, mx ≤ 20 → 8 + (mx + 11) + (39 * d + 33) ≤ R.locals := fun mx hmx => rm_aux hlo hmx
  have hroom : ∀ mx, mx ≤ 20 → (rmC d (cnt o1.2 - cnt h) (slt o1.2 - slt h)).frames + 1 ≤ R.frames ∧ 8 + (mx + 11) + (rmC d (cnt o1.2 - cnt h) (slt o1.2 - slt h)).locals ≤ R.locals := fun mx hmx => ⟨hrA, hrB mx hmx⟩
  cases i
  case invokevirtual idx =>
    simp only [cll] at hs
    split at hs
    · rename_i a rest' hdr
      split at hs
      · rename_i ci fs ha
        split at hs
        · rename_i hcd
          obtain ⟨hci, hca⟩ := nat_and hcd
          cases hs
          have hci' : ci = x3 := Nat.eq_of_beq_eq_true hci
          subst hci'
          dsimp only at hrk
          split at hrk
          · rename_i Y hY
            obtain ⟨hrk, t4⟩ := nat_and hrk
            obtain ⟨hrk, t3⟩ := nat_and hrk
            obtain ⟨hrk, t2⟩ := nat_and hrk
            unfold clee at hrk
            obtain ⟨hrk, u7⟩ := nat_and hrk
            obtain ⟨hrk, u6⟩ := nat_and hrk
            obtain ⟨hrk, u5⟩ := nat_and hrk
            obtain ⟨hrk, u4⟩ := nat_and hrk
            obtain ⟨hrk, u3⟩ := nat_and hrk
            obtain ⟨u1, u2⟩ := nat_and hrk
            have hwd' : ∀ w ∈ ([.methodLink M.2.2.2.2.2.1 idx Y.1, .instanceMethod Y.1, .selects Y.1.cls Y.1 Y.1, cdW Y, .initialized Y.1.cls] : List Jvm.Cond), w ∈ TG := fun w hw => hwd w (by simp only [rwd]; rw [hY]; exact hw)
            have hhh : Y.2.2.2.2.1 = [] := of_decide_eq_true t2
            have hcdw : cdW Y = .code Y.1 Y.2.1 Y.2.2.1 Y.2.2.2.1 := by unfold cdW; rw [hhh]
            have hca' : (Value.ref a :: (S.take x2).reverse).all cat1 = true := by
              rw [List.all_cons, List.all_reverse, hca]
              rfl
            have hM2 := met_of (Qc := Qc) (XC := XC) (l := l) hY u3 (of_decide_eq_true u7) hca' (by rw [List.length_cons, List.length_reverse, take_len hdr]; exact Nat.le_of_ble_eq_true u6) e1 hI hV hX
            rw [hcdw] at hM2 hwd'
            have hgi : GoodIn TG (wsV M.2.2.2.2.2.1 idx Y.1.cls Y.1 (.code Y.1 Y.2.1 Y.2.2.1 Y.2.2.2.1 :: TG)) := inTG1 (fun w hw => by
              unfold wsV at hw
              rcases List.mem_append.mp hw with hw | hw
              · simp only [List.mem_cons, List.not_mem_nil, or_false] at hw
                rcases hw with rfl | rfl | rfl | rfl <;> exact hwd' _ (by simp)
              · rcases List.mem_cons.mp hw with rfl | hw
                · exact hwd' _ (by simp)
                · exact hw)
            have hcw := cwV (R := R) (mc := cnt o1.2 - cnt h) (ms := slt o1.2 - slt h) (rm := rmC d (cnt o1.2 - cnt h) (slt o1.2 - slt h)) x2 hts hgi rfl rfl rfl ⟨rfl, of_decide_eq_true u1, of_decide_eq_true u2, of_decide_eq_true u4⟩ (hroom _ (Nat.le_of_ble_eq_true u5))
            refine ⟨_, vx_runV (As := (S.take x2).reverse.map (vmp bs ba)) (b := adr bs ba a) hfx hM2 hcw ⟨Prc.blind, ?_, fun U hU hW => ⟨rfl, hpre U hU hW⟩⟩ rfl (by rw [List.length_map, List.length_reverse, take_len hdr]) hL.2.1.1 (take_stack hdr) hrm hd hfit⟩
            rcases hC.at ha with ⟨-, ho⟩ | ⟨t, j, rfl, h1, h2, hP, h3⟩
            · cases ho
            · obtain ⟨C, T, N, hcl, -⟩ := cls_ok ci (Nat.blt_eq.mp t3)
              have hCe : fC ci = C := by simp [fC, hcl]
              have hYC : C = Y.1.cls := by rw [← hCe]; exact of_decide_eq_true t4
              have := va_recv hE.1 hP hcl h3
              rw [← hYC]
              exact this
          · cases hrk
        · cases hs
      · cases hs
    · cases hs
  case invokespecial idx =>
    simp only [cll] at hs
    split at hs
    · rename_i hlt
      split at hs
      · rename_i a rest' hdr
        split at hs
        · rename_i hca
          cases hs
          have hx8 : y < 8000 := Nat.blt_eq.mp hlt
          have n1 : ¬ y = 9999 := by omega
          have n2 : ¬ y = 8888 := by omega
          dsimp only at hrk
          rw [if_neg n1, if_neg n2] at hrk
          split at hrk
          · rename_i Y hY
            obtain ⟨hrk, t4⟩ := nat_and hrk
            obtain ⟨hrk, t3⟩ := nat_and hrk
            obtain ⟨hrk, t2⟩ := nat_and hrk
            unfold clee at hrk
            obtain ⟨hrk, u7⟩ := nat_and hrk
            obtain ⟨hrk, u6⟩ := nat_and hrk
            obtain ⟨hrk, u5⟩ := nat_and hrk
            obtain ⟨hrk, u4⟩ := nat_and hrk
            obtain ⟨hrk, u3⟩ := nat_and hrk
            obtain ⟨u1, u2⟩ := nat_and hrk
            have hwd' : ∀ w ∈ ([.methodLink M.2.2.2.2.2.1 idx Y.1, .instanceMethod Y.1, cdW Y, .initialized Y.1.cls] : List Jvm.Cond), w ∈ TG := fun w hw => hwd w (by simp only [rwd]; rw [if_neg n1, if_neg n2, hY]; exact hw)
            have hhh : Y.2.2.2.2.1 = [] := of_decide_eq_true t2
            have hrn : Y.2.2.2.1 = none := of_decide_eq_true t3
            have hcdw : cdW Y = .code Y.1 Y.2.1 Y.2.2.1 none := by unfold cdW; rw [hhh, hrn]
            have hca' : (Value.ref a :: (S.take x2).reverse).all cat1 = true := by
              rw [List.all_cons, List.all_reverse, hca]
              rfl
            have hinl : ∃ v, o1.1 = .inl v := by
              rcases hsp with h9 | h9
              · cases h9
              · exact h9
            have hM2 := met_plain (met_of (Qc := Qc) (XC := fun _ _ _ => False) (l := l) hY u3 (of_decide_eq_true u7) hca' (by rw [List.length_cons, List.length_reverse, take_len hdr]; exact Nat.le_of_ble_eq_true u6) e1 hI hV (fun s t E hE => by
              obtain ⟨v, hv⟩ := hinl
              rw [hv] at hE
              cases hE))
            rw [hcdw] at hM2 hwd'
            have hgi : GoodIn TG (.code Y.1 Y.2.1 Y.2.2.1 none :: TG) := inTG1 (fun w hw => by
              rcases List.mem_cons.mp hw with rfl | hw
              · exact hwd' _ (by simp)
              · exact hw)
            have hcw := cwI (R := R) (index := idx) (own := M.2.2.2.2.2.1) (mc := cnt o1.2 - cnt h) (ms := slt o1.2 - slt h) (rm := rmC d (cnt o1.2 - cnt h) (slt o1.2 - slt h)) x2 hts hgi rfl rfl rfl (hts _ (hwd' (.initialized Y.1.cls) (by simp))) (hts _ (hwd' (.methodLink M.2.2.2.2.2.1 idx Y.1) (by simp))) (hts _ (hwd' (.instanceMethod Y.1) (by simp))) (of_decide_eq_true t4) ⟨of_decide_eq_true u1, of_decide_eq_true u2, of_decide_eq_true u4⟩ (hroom _ (Nat.le_of_ble_eq_true u5))
            have hrun := va_runI (e := e) (below := below) (meth := meth) (locs := locs) (As := (S.take x2).reverse.map (vmp bs ba)) (b := adr bs ba a) (g := F0 m pc ls (S.map (vmp bs ba))) (rest := rest.map (vmp bs ba)) hfx hM2 hcw ⟨Prc.blind, fun U hU hW => ⟨rfl, hpre U hU hW⟩⟩ rfl (by rw [List.length_map, List.length_reverse, take_len hdr]) hL.2.1.1 (take_stack hdr) hrm hd hfit
            exact ⟨_, fun T hT9 X9 => Or.inl (hrun T hT9 X9)⟩
          · cases hrk
        · cases hs
      · cases hs
    · cases hs
  case invokestatic idx =>
    simp only [cll] at hs
    split at hs
    · rename_i hcd
      obtain ⟨hlt, hcd⟩ := nat_and hcd
      obtain ⟨hle, hca⟩ := nat_and hcd
      cases hs
      have hx8 : y < 7000 := Nat.blt_eq.mp hlt
      have n1 : ¬ y = 7001 := by omega
      have n2 : ¬ y = 7002 := by omega
      have hle' : x2 ≤ S.length := Nat.le_of_ble_eq_true hle
      have htl : (S.take x2).length = x2 := by rw [List.length_take]; omega
      dsimp only at hrk
      rw [if_neg n1, if_neg n2] at hrk
      split at hrk
      · rename_i Y hY
        unfold clee at hrk
        obtain ⟨hrk, u7⟩ := nat_and hrk
        obtain ⟨hrk, u6⟩ := nat_and hrk
        obtain ⟨hrk, u5⟩ := nat_and hrk
        obtain ⟨hrk, u4⟩ := nat_and hrk
        obtain ⟨hrk, u3⟩ := nat_and hrk
        obtain ⟨u1, u2⟩ := nat_and hrk
        have hwd' : ∀ w ∈ ([.methodLink M.2.2.2.2.2.1 idx Y.1, .static Y.1, cdW Y, .initialized Y.1.cls] : List Jvm.Cond), w ∈ TG := fun w hw => hwd w (by simp only [rwd]; rw [if_neg n1, if_neg n2, hY]; exact hw)
        have hca' : ((S.take x2).reverse).all cat1 = true := by rw [List.all_reverse, hca]
        have hM2 := met_of (Qc := Qc) (XC := XC) (l := l) hY u3 (of_decide_eq_true u7) hca' (by rw [List.length_reverse, htl]; exact Nat.le_of_ble_eq_true u6) e1 hI hV hX
        have hgi : GoodIn TG (va_wsS M.2.2.2.2.2.1 idx Y.1 (cdW Y :: TG)) := inTG1 (fun w hw => by
          unfold va_wsS at hw
          rcases List.mem_append.mp hw with hw | hw
          · simp only [List.mem_cons, List.not_mem_nil, or_false] at hw
            rcases hw with rfl | rfl | rfl <;> exact hwd' _ (by simp)
          · rcases List.mem_cons.mp hw with rfl | hw
            · exact hwd' _ (by simp)
            · exact hw)
        have hst : S.map (vmp bs ba) = (((S.take x2).reverse.map (vmp bs ba))).reverse ++ (S.drop x2).map (vmp bs ba) := by
          conv => lhs; rw [← List.take_append_drop x2 S]
          rw [List.map_append, ← List.map_reverse, List.reverse_reverse]
        have hpS : PreS s H (va_Pc ((S.take x2).reverse.map (vmp bs ba)) (Prc dC dI cI cJ bs ba Ls xs sa h)) ((S.take x2).reverse.map (vmp bs ba)) := ⟨Prc.blind, fun U hU hW => ⟨rfl, hpre U hU hW⟩⟩
        cases hhh : Y.2.2.2.2.1 with
        | nil =>
          have hcdw : cdW Y = .code Y.1 Y.2.1 Y.2.2.1 Y.2.2.2.1 := by unfold cdW; rw [hhh]
          rw [hcdw] at hM2 hgi
          have hcw := va_cwS (R := R) (mc := cnt o1.2 - cnt h) (ms := slt o1.2 - slt h) (rm := rmC d (cnt o1.2 - cnt h) (slt o1.2 - slt h)) x2 hts hgi rfl rfl rfl ⟨of_decide_eq_true u1, of_decide_eq_true u2, of_decide_eq_true u4⟩ (hroom _ (Nat.le_of_ble_eq_true u5))
          exact ⟨_, vx_runS (As := (S.take x2).reverse.map (vmp bs ba)) hfx hM2 hcw hpS rfl (by rw [List.length_map, List.length_reverse, htl]) hL.2.1.1 hst hrm hd hfit⟩
        | cons q hl9 =>
          have hcdw : cdW Y = .codeWith Y.1 Y.2.1 Y.2.2.1 Y.2.2.2.1 (q :: hl9) := by unfold cdW; rw [hhh]
          rw [hcdw] at hM2 hgi
          have hcw := vx_cwSW (R := R) (mc := cnt o1.2 - cnt h) (ms := slt o1.2 - slt h) (rm := rmC d (cnt o1.2 - cnt h) (slt o1.2 - slt h)) x2 hts hgi rfl rfl rfl ⟨of_decide_eq_true u1, of_decide_eq_true u2, of_decide_eq_true u4⟩ (hroom _ (Nat.le_of_ble_eq_true u5))
          exact ⟨_, vx_runSX (As := (S.take x2).reverse.map (vmp bs ba)) hfx hM2 hcw hpS rfl (by rw [List.length_map, List.length_reverse, htl]) hL.2.1.1 hst hrm hd hfit⟩
      · cases hrk
    · cases hs
  all_goals cases hs
end
