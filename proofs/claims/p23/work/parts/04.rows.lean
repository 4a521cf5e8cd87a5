/-! WHAT A ROW OF THE TABLES RESTS ON: its bytes, and the words that link it. -/
section
def TG : List Jvm.Cond := lw_tbl.filter goodWord
theorem TG_good : GoodIn lw_tbl TG := fun w h => ⟨(List.mem_filter.mp h).1, good_of_word (List.mem_filter.mp h).2⟩
/-- the words of the faces: castable ones -/
def NG : List Jvm.Cond := lw_tbl.filter (fun w => w.faceAtom && w.onTables)
def fT (ci k : Nat) : String × String × String × Bool := match vwCl[ci]? with
  | some q => q.2.1 k
  | none => ("", "", "", false)
def fN (ci : Nat) : Nat := match vwCl[ci]? with
  | some q => q.2.2
  | none => 0
def fC (ci : Nat) : String := match vwCl[ci]? with
  | some q => q.1
  | none => ""
def tyT (ci : Nat) : Nat → FieldType := match ci with
  | 0 => tyX0
  | 1 => tyX1
  | 2 => tyX2
  | 3 => tyX3
  | 4 => tyX4
  | 5 => tyX6
  | _ => tyX7
def ilen (i : Instr) (n : Nat) : Nat := match i with
  | .aload _ | .iload _ | .istore _ | .astore _ | .bipush _ | .ldc _ | .newarray _ => 2
  | .sipush _ | .ldc_w _ | .iinc _ _ | .goto _ | .ifCond _ _ | .if_icmp _ _ | .getfield _ | .putfield _ | .new _ | .invokevirtual _ | .invokestatic _ | .invokespecial _ => 3
  | .tableswitch _ _ _ _ => n
  | _ => 1
def cdW (M : Mt) : Jvm.Cond := match M.2.2.2.2.1 with
  | [] => .code M.1 M.2.1 M.2.2.1 M.2.2.2.1
  | q :: l => .codeWith M.1 M.2.1 M.2.2.1 M.2.2.2.1 (q :: l)
def xnames : List String := ["java/lang/RuntimeException", "java/lang/Exception"]
def clee (Y : Mt) (n nn : Nat) : Bool := decide (Y.1.cls ≠ "java/lang/invoke/MethodHandle") && decide (Y.1.cls ≠ "java/lang/invoke/VarHandle") && plainName Y.1.cls && decide ((parseMethodDescriptor Y.1.desc).map (fun d => d.parameters.length) = some n) && Nat.ble Y.2.2.1 20 && Nat.ble nn Y.2.2.1 && decide (Y.1.cls = Y.2.2.2.2.2.1)
/-- the words of a throw: those that the tables hold, by (kind, entry) -/
def thw (E ic : Nat) : Bool := decide ((E = 0 ∧ ic = 56) ∨ (E = 1 ∧ ic = 75) ∨ (E = 2 ∧ ic = 208))
/-- the words that a row needs -/
def rwd (M : Mt) (r : Rw) : List Jvm.Cond := match r.1 with
  | .getfield idx => [.fieldLink M.2.2.2.2.2.1 idx (fT r.2.2.1 r.2.2.2.1).1 (fT r.2.2.1 r.2.2.2.1).2.1 (fT r.2.2.1 r.2.2.2.1).2.2.1]
  | .putfield idx => [.fieldLink M.2.2.2.2.2.1 idx (fT r.2.2.1 r.2.2.2.1).1 (fT r.2.2.1 r.2.2.2.1).2.1 (fT r.2.2.1 r.2.2.2.1).2.2.1]
  | .invokestatic idx => if r.2.2.1 = 7001 then [.methodLink M.2.2.2.2.2.1 idx Lib.Math.max.name, .static Lib.Math.max.name, .code Lib.Math.max.name Lib.Math.max.code 2 (some .int), .initialized "java/lang/Math"]
      else if r.2.2.1 = 7002 then [.methodLink M.2.2.2.2.2.1 idx Lib.Math.min.name, .static Lib.Math.min.name, .code Lib.Math.min.name Lib.Math.min.code 2 (some .int), .initialized "java/lang/Math"]
      else match mAt r.2.2.1 with
      | some Y => [.methodLink M.2.2.2.2.2.1 idx Y.1, .static Y.1, cdW Y, .initialized Y.1.cls]
      | none => []
  | .invokevirtual idx => (match mAt r.2.2.1 with
      | some Y => [.methodLink M.2.2.2.2.2.1 idx Y.1, .instanceMethod Y.1, .selects Y.1.cls Y.1 Y.1, cdW Y, .initialized Y.1.cls]
      | none => [])
  | .invokespecial idx => if r.2.2.1 = 9999 then [.methodLink M.2.2.2.2.2.1 idx objectInit, .instanceMethod objectInit, .code objectInit ⟨#[0xb1]⟩ 1 none] else if r.2.2.1 = 8888 then [] else (match mAt r.2.2.1 with
      | some Y => [.methodLink M.2.2.2.2.2.1 idx Y.1, .instanceMethod Y.1, cdW Y, .initialized Y.1.cls]
      | none => [])
  | .new idx => if r.2.2.1 < 7 then [.classLink M.2.2.2.2.2.1 idx (fC r.2.2.1), .instantiable (fC r.2.2.1) (fN r.2.2.1), .initialized (fC r.2.2.1)] else [.classLink "Coppinghouse" idx (exn (r.2.2.1 - 1000)), .initialized (exn (r.2.2.1 - 1000))]
  | .newarray t => [.arrayClass (newarray.typeOf t)]
  | .ldc idx => if r.2.2.1 = 0 then [] else [.constant M.2.2.2.2.2.1 idx (Int32.ofNat r.2.2.1)]
  | .ldc_w idx => if r.2.2.1 = 0 then [] else [.constant M.2.2.2.2.2.1 idx (Int32.ofNat r.2.2.1)]
  | _ => []
def hwd (q : Nat × Nat × Nat × Nat) (own : String) : List Jvm.Cond := match q.2.2.2 with
  | 13 => [.classLink own 13 (exn 0)]
  | 18 => [.classLink own 18 (exn 1)]
  | 24 => [.classLink own 24 (exn 2)]
  | _ => []
def thr (M : Mt) (pc : Nat) (idx E is ic : Nat) : Bool :=
  Nat.blt E 3 && decide (M.2.2.2.2.2.1 = "Coppinghouse") && decide (decode M.2.1 (pc + 3) = .ok (.dup, 1)) && decide (decode M.2.1 (pc + 4) = .ok (.ldc is, 2)) && decide (decode M.2.1 (pc + 6) = .ok (.invokespecial ic, 3)) && decide (decode M.2.1 (pc + 9) = .ok (.athrow, 1)) && decide (M.2.2.2.2.1 = []) && thw E ic && (txts.map (·.1)).contains is
def rok (M : Mt) (pc : Nat) (r : Rw) : Bool :=
  decide (decode M.2.1 pc = .ok (r.1, ilen r.1 r.2.1)) && (match r.1 with
  | .getfield idx => Nat.blt r.2.2.1 7 && Nat.blt r.2.2.2.1 (fN r.2.2.1)
  | .putfield idx => Nat.blt r.2.2.1 7 && Nat.blt r.2.2.2.1 (fN r.2.2.1) &&
      (match (fT r.2.2.1 r.2.2.2.1).2.2.2 with
        | true => decide (M.1.name = "<init>") && decide ((fT r.2.2.1 r.2.2.2.1).1 = M.2.2.2.2.2.1)
        | false => true) &&
      (match tyT r.2.2.1 r.2.2.2.1 with
        | .int => r.2.2.2.2 / 2 == 1
        | .object _ => r.2.2.2.2 / 2 == 0
        | .array _ => r.2.2.2.2 / 2 == 0
        | _ => false)
  | .invokestatic idx => if r.2.2.1 = 7001 then true else if r.2.2.1 = 7002 then true else (match mAt r.2.2.1 with
      | some Y => clee Y r.2.2.2.1 r.2.2.2.1
      | none => false)
  | .invokevirtual idx => (match mAt r.2.2.1 with
      | some Y => clee Y r.2.2.2.1 (r.2.2.2.1 + 1) && decide (Y.2.2.2.2.1 = []) && Nat.blt r.2.2.2.2 7 && decide (fC r.2.2.2.2 = Y.1.cls)
      | none => false)
  | .invokespecial idx => if r.2.2.1 = 9999 then true else if r.2.2.1 = 8888 then true else (match mAt r.2.2.1 with
      | some Y => clee Y r.2.2.2.1 (r.2.2.2.1 + 1) && decide (Y.2.2.2.2.1 = []) && decide (Y.2.2.2.1 = none) && decide (Y.1.name = "<init>")
      | none => false)
  | .new idx => if r.2.2.1 < 7 then true else Nat.ble 1000 r.2.2.1 && thr M pc idx (r.2.2.1 - 1000) r.2.2.2.1 r.2.2.2.2
  | .goto off => decide ((pc : Int) + off = (r.2.2.1 : Int))
  | .ifCond _ off => decide ((pc : Int) + off = (r.2.2.1 : Int))
  | .if_icmp _ off => decide ((pc : Int) + off = (r.2.2.1 : Int))
  | .tableswitch d _ _ offs => decide (0 ≤ (pc : Int) + d) && offs.all (fun o => decide (0 ≤ (pc : Int) + o))
  | _ => true)
/-- every row of a method, and its handlers -/
def mok (M : Mt) : Bool := M.2.2.2.2.2.2.all (fun l => l.all fun q => rok M q.1 q.2) && M.2.2.2.2.1.all (fun q => Nat.beq q.2.2.2 13 || Nat.beq q.2.2.2 18 || Nat.beq q.2.2.2 24)
def mwd (M : Mt) : List Jvm.Cond := (M.2.2.2.2.2.2.flatMap fun l => l.flatMap fun q => rwd M q.2) ++ (M.2.2.2.2.1.flatMap fun q => hwd q M.2.2.2.2.2.1)
theorem mok_of {M : Mt} (h : ∀ l ∈ M.2.2.2.2.2.2, ∀ q ∈ l, rok M q.1 q.2 = true) (h2 : M.2.2.2.2.1.all (fun q => Nat.beq q.2.2.2 13 || Nat.beq q.2.2.2 18 || Nat.beq q.2.2.2 24) = true) : mok M = true := by
  unfold mok
  rw [h2, Bool.and_true]
  exact List.all_eq_true.mpr fun l hl => List.all_eq_true.mpr fun q hq => h l hl q hq
theorem thw_ok {E ic : Nat} (h : thw E ic = true) : ∀ w ∈ vx_atS "Coppinghouse" ic (exn E) xnames, (w ∈ TG ∨ w ∈ NG) := by
  rcases of_decide_eq_true h with ⟨rfl, rfl⟩ | ⟨rfl, rfl⟩ | ⟨rfl, rfl⟩
  · decide +kernel
  · decide +kernel
  · decide +kernel
theorem thw_ot {E ic : Nat} (h : thw E ic = true) : ∀ w ∈ vx_atS "Coppinghouse" ic (exn E) xnames, vx_ot w = true := by
  rcases of_decide_eq_true h with ⟨rfl, rfl⟩ | ⟨rfl, rfl⟩ | ⟨rfl, rfl⟩
  · decide +kernel
  · decide +kernel
  · decide +kernel
end
