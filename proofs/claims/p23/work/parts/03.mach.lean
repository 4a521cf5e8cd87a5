/-! THE ABSTRACT MACHINE: values are the machine's, but a reference is a PLACE (0 the script, j+1 the j-th thing made). -/
section
abbrev AO : Type := vp_A ⊕ (Nat × List Value)
abbrev AH : Type := Nat × List AO
abbrev Cf : Type := Nat × List Value × List Value × AH
abbrev Ou : Type := (Option Value ⊕ Nat) × AH
def jk : Value := .retAddr 0
def mAt (k : Nat) : Option Mt := match mtabs[k / 16]? with
  | some g => g[k % 16]?
  | none => none
def lkp : List (Nat × Rw) → Nat → Option Rw
  | [], _ => none
  | q :: l, pc => match Nat.beq q.1 pc with
    | true => some q.2
    | false => lkp l pc
def rAtM (M : Mt) (pc : Nat) : Option Rw := match M.2.2.2.2.2.2[pc / 16]? with
  | some l => lkp l pc
  | none => none
def rAt (k pc : Nat) : Option Rw := match mAt k with
  | some M => rAtM M pc
  | none => none
def cmpI (c : Jvm.ClassFile.Cond) (x y : Int32) : Bool := match c with
  | .eq => decide (x = y)
  | .ne => decide (¬ x = y)
  | .lt => decide (x < y)
  | .ge => decide (y ≤ x)
  | .gt => decide (y < x)
  | .le => decide (x ≤ y)
def inb (i : Int32) (n : Nat) : Bool := decide (¬ (i < 0 ∨ n ≤ i.toNatClampNeg))
def dfl (ci : Nat) : List Value := match ci with
  | 0 => [.null, .null, .int 0]
  | 1 => [.null, .null, .null, .null, .int 0]
  | 2 => [.int 0, .int 0]
  | 3 => [.null, .null, .null, .int 0]
  | 4 => [.null, .int 0, .int 0]
  | 5 => [.null]
  | 6 => [.null, .null, .null, .null, .null, .int 0]
  | _ => []
def okv (x3 : Nat) (v : Value) : Bool := match v with
  | .int _ => x3 / 2 == 1
  | .ref _ => x3 / 2 == 0
  | _ => false
def ldi (L : List Value) (k : Nat) : Option Value := match L[k]? with
  | some (.int a) => some (.int a)
  | _ => none
def lda (L : List Value) (k : Nat) : Option Value := match L[k]? with
  | some (.ref a) => some (.ref a)
  | _ => none
def psh (pc : Nat) (L S : List Value) (h : AH) (v : Option Value) : Option Cf := match v with
  | some w => some (pc, L, w :: S, h)
  | none => none
def bin (pc : Nat) (L S : List Value) (h : AH) (f : Int32 → Int32 → Int32) : Option Cf := match S with
  | .int y :: .int x :: S' => some (pc, L, .int (f x y) :: S', h)
  | _ => none
def sti (pc k : Nat) (L S : List Value) (h : AH) : Option Cf := match S with
  | .int x :: S' => bif Nat.blt k L.length then some (pc, L.set k (.int x), S', h) else none
  | _ => none
def sta (pc k : Nat) (L S : List Value) (h : AH) : Option Cf := match S with
  | .ref x :: S' => bif Nat.blt k L.length then some (pc, L.set k (.ref x), S', h) else none
  | _ => none
def nwa (pc : Nat) (t : ArrayType) (L : List Value) (n : Int32) (S : List Value) (h : AH) : Option Cf := match t with
  | .int => some (pc, L, .ref h.2.length :: S, (h.1, h.2 ++ [.inl (n.toNatClampNeg, .inl fun _ => 0)]))
  | _ => none
/-- one instruction that is no call, no return, no throw -/
def stp (pc : Nat) (r : Rw) (L S : List Value) (h : AH) : Option Cf :=
  match r.1 with
  | .aload_n k => psh (pc + 1) L S h (lda L k.val)
  | .aload k => psh (pc + 2) L S h (lda L k)
  | .iload_n k => psh (pc + 1) L S h (ldi L k.val)
  | .iload k => psh (pc + 2) L S h (ldi L k)
  | .istore_n k => sti (pc + 1) k.val L S h
  | .istore k => sti (pc + 2) k L S h
  | .astore_n k => sta (pc + 1) k.val L S h
  | .astore k => sta (pc + 2) k L S h
  | .iconst n => some (pc + 1, L, .int (Int32.ofInt n) :: S, h)
  | .bipush n => some (pc + 2, L, .int (Int8.ofInt n).toInt32 :: S, h)
  | .sipush n => some (pc + 3, L, .int (Int16.ofInt n).toInt32 :: S, h)
  | .lconst n => some (pc + 1, L, .long (Int64.ofNat n.val) :: S, h)
  | .ldc _ => match r.2.2.1 with
    | 0 => none
    | n => some (pc + 2, L, .int (Int32.ofNat n) :: S, h)
  | .ldc_w _ => match r.2.2.1 with
    | 0 => none
    | n => some (pc + 3, L, .int (Int32.ofNat n) :: S, h)
  | .iinc i n => match L[i]? with
    | some (.int x) => some (pc + 3, L.set i (.int (x + Int32.ofInt n)), S, h)
    | _ => none
  | .iadd => bin (pc + 1) L S h (fun x y => x + y)
  | .isub => bin (pc + 1) L S h (fun x y => x - y)
  | .imul => bin (pc + 1) L S h (fun x y => x * y)
  | .iand => bin (pc + 1) L S h (fun x y => x &&& y)
  | .ior => bin (pc + 1) L S h (fun x y => x ||| y)
  | .ixor => bin (pc + 1) L S h (fun x y => x ^^^ y)
  | .ishl => bin (pc + 1) L S h (fun x y => x <<< (y &&& 31))
  | .ishr => bin (pc + 1) L S h (fun x y => x >>> (y &&& 31))
  | .iushr => bin (pc + 1) L S h (fun x y => (x.toUInt32 >>> (y.toUInt32 &&& Int32.toUInt32 31)).toInt32)
  | .idiv => match S with
    | .int y :: .int x :: S' => bif decide (y = 0) then none else some (pc + 1, L, .int (x / y) :: S', h)
    | _ => none
  | .irem => match S with
    | .int y :: .int x :: S' => bif decide (y = 0) then none else some (pc + 1, L, .int (x - x / y * y) :: S', h)
    | _ => none
  | .i2l => match S with
    | .int x :: S' => some (pc + 1, L, .long x.toInt64 :: S', h)
    | _ => none
  | .lcmp => match S with
    | .long y :: .long x :: S' => some (pc + 1, L, .int (lg_cmp x y) :: S', h)
    | _ => none
  | .dup => match S with
    | .ref a :: S' => some (pc + 1, L, .ref a :: .ref a :: S', h)
    | .int a :: S' => some (pc + 1, L, .int a :: .int a :: S', h)
    | _ => none
  | .pop => match S with
    | .ref _ :: S' => some (pc + 1, L, S', h)
    | .int _ :: S' => some (pc + 1, L, S', h)
    | _ => none
  | .goto _ => some (r.2.2.1, L, S, h)
  | .ifCond c _ => match S with
    | .int x :: S' => some (bif cmpI c x 0 then r.2.2.1 else pc + 3, L, S', h)
    | _ => none
  | .if_icmp c _ => match S with
    | .int y :: .int x :: S' => some (bif cmpI c x y then r.2.2.1 else pc + 3, L, S', h)
    | _ => none
  | .getfield _ => match S with
    | .ref a :: S' => match h.2[a]? with
      | some (.inr (ci, fs)) => match Nat.beq ci r.2.2.1 with
        | true => psh (pc + 3) L S' h fs[r.2.2.2.1]?
        | false => none
      | _ => none
    | _ => none
  | .putfield _ => match S with
    | v :: .ref a :: S' => match h.2[a]? with
      | some (.inr (ci, fs)) => match Nat.beq ci r.2.2.1 && (Nat.blt r.2.2.2.1 fs.length && okv r.2.2.2.2 v) with
        | true => some (pc + 3, L, S', (h.1, h.2.set a (.inr (ci, fs.set r.2.2.2.1 v))))
        | false => none
      | _ => none
    | _ => none
  | .arraylength => match S with
    | .ref a :: S' => match h.2[a]? with
      | some (.inl (n, .inl _)) => some (pc + 1, L, .int (Int32.ofNat n) :: S', h)
      | _ => none
    | _ => none
  | .iaload => match S with
    | .int i :: .ref a :: S' => match h.2[a]? with
      | some (.inl (n, .inl f)) => match inb i n with
        | true => some (pc + 1, L, .int (f i.toNatClampNeg) :: S', h)
        | false => none
      | _ => none
    | _ => none
  | .iastore => match S with
    | .int x :: .int i :: .ref (a + 1) :: S' => match h.2[a + 1]? with
      | some (.inl (n, .inl f)) => match inb i n with
        | true => some (pc + 1, L, S', (h.1, h.2.set (a + 1) (.inl (n, .inl (upd f i.toNatClampNeg x)))))
        | false => none
      | _ => none
    | _ => none
  | .new _ => match Nat.blt r.2.2.1 7 && Nat.beq h.1 0 with
    | true => some (pc + 3, L, .ref h.2.length :: S, (h.1, h.2 ++ [.inr (r.2.2.1, dfl r.2.2.1)]))
    | false => none
  | .newarray t => match S with
    | .int n :: S' => match Nat.beq h.1 0 && (decide (¬ n < 0) && Nat.ble n.toNatClampNeg 5000) with
      | true => nwa (pc + 2) t L n S' h
      | false => none
    | _ => none
  | .invokespecial _ => match Nat.beq r.2.2.1 9999 with
    | true => match S with
      | .ref _ :: S' => match Nat.ble S'.length 8 with
        | true => some (pc + 3, L, S', h)
        | false => none
      | _ => none
    | false => none
  | .invokestatic _ => match r.2.2.1, S with
    | 7001, .int y :: .int x :: S' => match Nat.ble S'.length 8 with
      | true => some (pc + 3, L, .int (if x < y then y else x) :: S', h)
      | false => none
    | 7002, .int y :: .int x :: S' => match Nat.ble S'.length 8 with
      | true => some (pc + 3, L, .int (if y < x then y else x) :: S', h)
      | false => none
    | _, _ => none
  | .tableswitch d lo hi offs => match S with
    | .int x :: S' => match decide (x.toInt < lo ∨ hi < x.toInt) with
      | true => some (((pc : Int) + d).toNat, L, S', h)
      | false => match offs[(x.toInt - lo).toNat]? with
        | some off => some (((pc : Int) + off).toNat, L, S', h)
        | none => none
    | _ => none
  | _ => none
def cat1 (v : Value) : Bool := match v with
  | .int _ => true
  | .ref _ => true
  | _ => false
/-- a call: the method, its arguments (its receiver first), what stays on the stack -/
def cll (r : Rw) (S : List Value) (h : AH) : Option (Nat × List Value × List Value) :=
  match r.1 with
  | .invokestatic _ => match Nat.blt r.2.2.1 7000 && (Nat.ble r.2.2.2.1 S.length && (S.take r.2.2.2.1).all cat1) with
    | true => some (r.2.2.1, (S.take r.2.2.2.1).reverse, S.drop r.2.2.2.1)
    | false => none
  | .invokevirtual _ => match S.drop r.2.2.2.1 with
    | .ref a :: rest => match h.2[a]? with
      | some (.inr (ci, _)) => match Nat.beq ci r.2.2.2.2 && (S.take r.2.2.2.1).all cat1 with
        | true => some (r.2.2.1, .ref a :: (S.take r.2.2.2.1).reverse, rest)
        | false => none
      | _ => none
    | _ => none
  | .invokespecial _ => match Nat.blt r.2.2.1 8000 with
    | true => match S.drop r.2.2.2.1 with
      | .ref a :: rest => match (S.take r.2.2.2.1).all cat1 with
        | true => some (r.2.2.1, .ref a :: (S.take r.2.2.2.1).reverse, rest)
        | false => none
      | _ => none
    | false => none
  | _ => none
/-- no call of an <init> -/
def nsp (r : Rw) : Bool := match r.1 with
  | .invokespecial _ => false
  | _ => true
def maxLOf (k : Nat) : Nat := match mAt k with
  | some M => M.2.2.1
  | none => 0
/-- a method's entry -/
def ent0 (y : Nat) (as : List Value) (h : AH) : Cf := (0, as ++ List.replicate (maxLOf y - as.length) jk, [], h)
def exn (E : Nat) : String := match E with
  | 0 => "java/lang/IllegalArgumentException"
  | 1 => "java/lang/IllegalStateException"
  | _ => "java/lang/IndexOutOfBoundsException"
/-- where a method takes up a throw that comes at pc: the handler's row -/
def hnd (M : Mt) (hs : List (Nat × Nat × Nat × Nat)) (pc : Nat) (E : Nat) : Option Nat := match hs with
  | [] => none
  | q :: l => match decide (q.1 ≤ pc ∧ pc < q.2.1) && hcl M q.2.2.2 E with
    | true => some q.2.2.1
    | false => hnd M l pc E
where hcl (_ : Mt) (ct E : Nat) : Bool := match ct, E with
  | 13, 0 => true
  | 18, 1 => true
  | 24, 2 => true
  | _, _ => false
/-- what a handler begins with: it keeps what was thrown -/
def hst (M : Mt) (hp : Nat) : Option (Nat × Nat) := match rAtM M hp with
  | some (.astore_n j, _) => some (hp + 1, j.val)
  | some (.astore j, _) => some (hp + 2, j)
  | _ => none
def rtok (ret : Option FieldType) (v : Int32) : Bool := match ret with
  | some .int => true
  | some .boolean => decide (v &&& 1 = v)
  | _ => false
/-- a way out: a return, or a throw -/
def fin (M : Mt) (r : Rw) (S : List Value) (h : AH) : Option Ou := match r.1 with
  | .ireturn => match S with
    | [.int v] => match rtok M.2.2.2.1 v with
      | true => some (.inl (some (.int v)), h)
      | false => none
    | _ => none
  | .return_ => match S, M.2.2.2.1 with
    | [], none => some (.inl none, h)
    | _, _ => none
  | _ => none
/-- closed under what the machine does -/
def Clo (P : Nat → Nat → Cf → Ou → Prop) : Prop :=
  (∀ d k M pc r L S h o, mAt k = some M → rAtM M pc = some r → fin M r S h = some o → P d k (pc, L, S, h) o) ∧
  (∀ d k M pc r L S h c' o, mAt k = some M → rAtM M pc = some r → stp pc r L S h = some c' → P d k c' o → P d k (pc, L, S, h) o) ∧
  (∀ d k M pc r L S h y as rest v h1 o, mAt k = some M → rAtM M pc = some r → cll r S h = some (y, as, rest) → rest.length ≤ 4 → P d y (ent0 y as h) (.inl v, h1) → P (d + 1) k (pc + 3, L, v.toList ++ rest, h1) o → P (d + 1) k (pc, L, S, h) o) ∧
  (∀ d k M pc r L S h y as rest E h1, mAt k = some M → rAtM M pc = some r → cll r S h = some (y, as, rest) → rest.length ≤ 4 → nsp r = true → M.2.2.2.2.1 = [] → P d y (ent0 y as h) (.inr E, h1) → P (d + 1) k (pc, L, S, h) (.inr E, h1))
/-- method k, from a frame on, with calls d deep at most, comes out so -/
def Ev (d k : Nat) (c : Cf) (o : Ou) : Prop := ∀ P : Nat → Nat → Cf → Ou → Prop, Clo P → P d k c o
theorem Ev.fin {d k M pc r L S h o} (hM : mAt k = some M) (hr : rAtM M pc = some r) (hf : fin M r S h = some o) : Ev d k (pc, L, S, h) o := fun P H => H.1 d k M pc r L S h o hM hr hf
theorem Ev.step {d k M pc r L S h c' o} (hM : mAt k = some M) (hr : rAtM M pc = some r) (hs : stp pc r L S h = some c') (e : Ev d k c' o) : Ev d k (pc, L, S, h) o := fun P H => H.2.1 d k M pc r L S h c' o hM hr hs (e P H)
theorem Ev.call {d k M pc r L S h y as rest v h1 o} (hM : mAt k = some M) (hr : rAtM M pc = some r) (hs : cll r S h = some (y, as, rest)) (hl : rest.length ≤ 4) (e1 : Ev d y (ent0 y as h) (.inl v, h1)) (e : Ev (d + 1) k (pc + 3, L, v.toList ++ rest, h1) o) : Ev (d + 1) k (pc, L, S, h) o := fun P H => H.2.2.1 d k M pc r L S h y as rest v h1 o hM hr hs hl (e1 P H) (e P H)
theorem Ev.pass {d k M pc r L S h y as rest E h1} (hM : mAt k = some M) (hr : rAtM M pc = some r) (hs : cll r S h = some (y, as, rest)) (hl : rest.length ≤ 4) (hn : nsp r = true) (hh : M.2.2.2.2.1 = []) (e1 : Ev d y (ent0 y as h) (.inr E, h1)) : Ev (d + 1) k (pc, L, S, h) (.inr E, h1) := fun P H => H.2.2.2 d k M pc r L S h y as rest E h1 hM hr hs hl hn hh (e1 P H)
end
