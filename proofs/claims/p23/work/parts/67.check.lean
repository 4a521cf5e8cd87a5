/-! THE SEARCH: the checker and what it proves. -/
section
/-- some pair catches every robber -/
def Win (m : Nat) (N : Nat → Nat) : Prop := ∃ p q t, t ≤ 89 ∧ p < m ∧ q < m ∧ ∀ r, r < m → wc m N t p q r = true
/-- every room is reached from room 0 -/
def Cnn (m : Nat) (N : Nat → Nat) : Prop := ∀ p : Nat → Bool, p 0 = true → (∀ i j, i < m → j < m → p i = true → nr N i j = true → p j = true) → ∀ i, i < m → p i = true
abbrev SS : Type := Nat × Nat × Nat × Nat × Nat
/-- the state is good: all its graphs are won -/
def Pst (m D : Nat) (x : SS) : Prop := ∀ N, GW m N → (∀ i, i < m → pc (N i) ≤ D) → Cnn m N → Con N x.2.1 x.2.2.1 x.2.2.2.1 → Wok m N x.2.2.2.2 x.1 → Win m N
def cU (i j : Nat) : Nat := 1 <<< (9 * i + j) ||| 1 <<< (9 * j + i)
def cX (i j : Nat) : Nat := 1 <<< (81 * i + 9 * j) ||| 1 <<< (81 * j + 9 * i)
def cA (i j : Nat) : Nat := 1 <<< (729 * i + 81 * j) ||| 1 <<< (729 * j + 81 * i)
def fullW (m W : Nat) : Nat := fl (fun r a => a &&& (W >>> (81 * r))) m sF81
def ovr (D MU i : Nat) : Bool := Nat.blt (D + 1) (pc ((MU >>> (9 * i)) &&& 511))
def dsc (m MA S : Nat) : Bool := S.testBit 0 && (!Nat.beq (S &&& (2 ^ m - 1)) (2 ^ m - 1) && !anyB 9 (fun i => S.testBit i && anyB 9 (fun j => MA.testBit (729 * i + 81 * j) && !S.testBit j)))
def eqS (x : SS) (W MU MX MA t : Nat) : Bool := Nat.beq x.1 W && (Nat.beq x.2.1 MU && (Nat.beq x.2.2.1 MX && (Nat.beq x.2.2.2.1 MA && Nat.beq x.2.2.2.2 t)))
def chk (m D C : Nat) (L : List SS) : Nat → Nat → Nat → Nat → Nat → Nat → Nat → Option Nat
  | 0, _, _, _, _, _, _ => none
  | f + 1, K, W, MU, MX, MA, t => match Nat.blt (K % 128) 81 with
    | true => match chk m D C L f (K / 128) W (MU ||| cU (K % 128 / 9) (K % 128 % 9)) (MX ||| cX (K % 128 / 9) (K % 128 % 9)) MA t with
      | some K2 => chk m D C L f K2 W MU MX (MA ^^^ cA (K % 128 / 9) (K % 128 % 9)) t
      | none => none
    | false => match Nat.beq (K % 128) 81 with
      | true => chk m D C L f (K / 128) (swp C MU MX MA W) MU MX MA (t + 1)
      | false => match Nat.beq (K % 128) 82 with
        | true => match Nat.ble t 89 && !Nat.beq (fullW m W) 0 with
          | true => some (K / 128)
          | false => none
        | false => match Nat.blt (K % 128) 92 with
          | true => match Nat.blt (K % 128 - 83) m && ovr D MU (K % 128 - 83) with
            | true => some (K / 128)
            | false => none
          | false => match Nat.beq (K % 128) 92 with
            | true => match dsc m MA (K / 128 % 512) with
              | true => some (K / 128 / 512)
              | false => none
            | false => match L[K / 128 % 1024]? with
              | some x => match eqS x W MU MX MA t with
                | true => some (K / 128 / 1024)
                | false => none
              | none => none
end
