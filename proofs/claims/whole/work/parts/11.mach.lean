/-! ===== THE ABSTRACT MACHINE: whole numbers, a memory of numbers, references by a fixed layout =====
A value is (0, x): an int; (1, x): a long; (k + 2, a): a reference to cell a of kind k. The memory M a i: place i of cell a. -/
noncomputable section
abbrev xV : Type := Nat × Int
abbrev xM : Type := Int → Int → Int
abbrev xE : Type := Nat × Nat × Int × List Nat × Nat
abbrev xL : Type := List (Option xV)
abbrev xC : Type := Nat × Nat × xL × List xV × xM
abbrev xR : Type := Option xV × xM
abbrev xO : Type := Option (Option Prop × (xC ⊕ (xR ⊕ (xC × (xR → xC)))))
/-! the arithmetic: each function is held by what it answers, so that nothing unfolds it by itself -/
theorem xw8_ex : ∃ f : Int → Int, ∀ x : Int, f x = (x + 128) % 256 - 128 := ⟨fun x => (x + 128) % 256 - 128, fun _ => rfl⟩
def xw8 : Int → Int := Classical.choose xw8_ex
theorem xw8_eq (x : Int) : xw8 x = (x + 128) % 256 - 128 := Classical.choose_spec xw8_ex x
theorem xw16_ex : ∃ f : Int → Int, ∀ x : Int, f x = (x + 32768) % 65536 - 32768 := ⟨fun x => (x + 32768) % 65536 - 32768, fun _ => rfl⟩
def xw16 : Int → Int := Classical.choose xw16_ex
theorem xw16_eq (x : Int) : xw16 x = (x + 32768) % 65536 - 32768 := Classical.choose_spec xw16_ex x
theorem xw32_ex : ∃ f : Int → Int, ∀ x : Int, f x = (x + 2147483648) % 4294967296 - 2147483648 := ⟨fun x => (x + 2147483648) % 4294967296 - 2147483648, fun _ => rfl⟩
def xw32 : Int → Int := Classical.choose xw32_ex
theorem xw32_eq (x : Int) : xw32 x = (x + 2147483648) % 4294967296 - 2147483648 := Classical.choose_spec xw32_ex x
theorem xw64_ex : ∃ f : Int → Int, ∀ x : Int, f x = (x + 9223372036854775808) % 18446744073709551616 - 9223372036854775808 := ⟨fun x => (x + 9223372036854775808) % 18446744073709551616 - 9223372036854775808, fun _ => rfl⟩
def xw64 : Int → Int := Classical.choose xw64_ex
theorem xw64_eq (x : Int) : xw64 x = (x + 9223372036854775808) % 18446744073709551616 - 9223372036854775808 := Classical.choose_spec xw64_ex x
theorem xand_ex : ∃ f : Int → Int → Int, ∀ x y : Int, f x y = (BitVec.ofInt 32 x &&& BitVec.ofInt 32 y).toInt := ⟨fun x y => (BitVec.ofInt 32 x &&& BitVec.ofInt 32 y).toInt, fun _ _ => rfl⟩
def xand : Int → Int → Int := Classical.choose xand_ex
theorem xand_eq (x y : Int) : xand x y = (BitVec.ofInt 32 x &&& BitVec.ofInt 32 y).toInt := Classical.choose_spec xand_ex x y
theorem xor32_ex : ∃ f : Int → Int → Int, ∀ x y : Int, f x y = (BitVec.ofInt 32 x ||| BitVec.ofInt 32 y).toInt := ⟨fun x y => (BitVec.ofInt 32 x ||| BitVec.ofInt 32 y).toInt, fun _ _ => rfl⟩
def xor32 : Int → Int → Int := Classical.choose xor32_ex
theorem xor32_eq (x y : Int) : xor32 x y = (BitVec.ofInt 32 x ||| BitVec.ofInt 32 y).toInt := Classical.choose_spec xor32_ex x y
theorem xxor_ex : ∃ f : Int → Int → Int, ∀ x y : Int, f x y = (BitVec.ofInt 32 x ^^^ BitVec.ofInt 32 y).toInt := ⟨fun x y => (BitVec.ofInt 32 x ^^^ BitVec.ofInt 32 y).toInt, fun _ _ => rfl⟩
def xxor : Int → Int → Int := Classical.choose xxor_ex
theorem xxor_eq (x y : Int) : xxor x y = (BitVec.ofInt 32 x ^^^ BitVec.ofInt 32 y).toInt := Classical.choose_spec xxor_ex x y
theorem xshl_ex : ∃ f : Int → Int → Int, ∀ x y : Int, f x y = xw32 (x * 2 ^ (y % 32).toNat) := ⟨fun x y => xw32 (x * 2 ^ (y % 32).toNat), fun _ _ => rfl⟩
def xshl : Int → Int → Int := Classical.choose xshl_ex
theorem xshl_eq (x y : Int) : xshl x y = xw32 (x * 2 ^ (y % 32).toNat) := Classical.choose_spec xshl_ex x y
theorem xshr_ex : ∃ f : Int → Int → Int, ∀ x y : Int, f x y = x / 2 ^ (y % 32).toNat := ⟨fun x y => x / 2 ^ (y % 32).toNat, fun _ _ => rfl⟩
def xshr : Int → Int → Int := Classical.choose xshr_ex
theorem xshr_eq (x y : Int) : xshr x y = x / 2 ^ (y % 32).toNat := Classical.choose_spec xshr_ex x y
theorem xushr_ex : ∃ f : Int → Int → Int, ∀ x y : Int, f x y = xw32 ((x % 4294967296) / 2 ^ (y % 32).toNat) := ⟨fun x y => xw32 ((x % 4294967296) / 2 ^ (y % 32).toNat), fun _ _ => rfl⟩
def xushr : Int → Int → Int := Classical.choose xushr_ex
theorem xushr_eq (x y : Int) : xushr x y = xw32 ((x % 4294967296) / 2 ^ (y % 32).toNat) := Classical.choose_spec xushr_ex x y
theorem xrem_ex : ∃ f : Int → Int → Int, ∀ x y : Int, f x y = Int.tmod x y := ⟨fun x y => Int.tmod x y, fun _ _ => rfl⟩
def xrem : Int → Int → Int := Classical.choose xrem_ex
theorem xrem_eq (x y : Int) : xrem x y = Int.tmod x y := Classical.choose_spec xrem_ex x y
theorem xdiv_ex : ∃ f : Int → Int → Int, ∀ x y : Int, f x y = xw32 (Int.tdiv x y) := ⟨fun x y => xw32 (Int.tdiv x y), fun _ _ => rfl⟩
def xdiv : Int → Int → Int := Classical.choose xdiv_ex
theorem xdiv_eq (x y : Int) : xdiv x y = xw32 (Int.tdiv x y) := Classical.choose_spec xdiv_ex x y
theorem xandL_ex : ∃ f : Int → Int → Int, ∀ x y : Int, f x y = (BitVec.ofInt 64 x &&& BitVec.ofInt 64 y).toInt := ⟨fun x y => (BitVec.ofInt 64 x &&& BitVec.ofInt 64 y).toInt, fun _ _ => rfl⟩
def xandL : Int → Int → Int := Classical.choose xandL_ex
theorem xandL_eq (x y : Int) : xandL x y = (BitVec.ofInt 64 x &&& BitVec.ofInt 64 y).toInt := Classical.choose_spec xandL_ex x y
theorem xorL_ex : ∃ f : Int → Int → Int, ∀ x y : Int, f x y = (BitVec.ofInt 64 x ||| BitVec.ofInt 64 y).toInt := ⟨fun x y => (BitVec.ofInt 64 x ||| BitVec.ofInt 64 y).toInt, fun _ _ => rfl⟩
def xorL : Int → Int → Int := Classical.choose xorL_ex
theorem xorL_eq (x y : Int) : xorL x y = (BitVec.ofInt 64 x ||| BitVec.ofInt 64 y).toInt := Classical.choose_spec xorL_ex x y
theorem xxorL_ex : ∃ f : Int → Int → Int, ∀ x y : Int, f x y = (BitVec.ofInt 64 x ^^^ BitVec.ofInt 64 y).toInt := ⟨fun x y => (BitVec.ofInt 64 x ^^^ BitVec.ofInt 64 y).toInt, fun _ _ => rfl⟩
def xxorL : Int → Int → Int := Classical.choose xxorL_ex
theorem xxorL_eq (x y : Int) : xxorL x y = (BitVec.ofInt 64 x ^^^ BitVec.ofInt 64 y).toInt := Classical.choose_spec xxorL_ex x y
theorem xshlL_ex : ∃ f : Int → Int → Int, ∀ x y : Int, f x y = xw64 (x * 2 ^ (y % 64).toNat) := ⟨fun x y => xw64 (x * 2 ^ (y % 64).toNat), fun _ _ => rfl⟩
def xshlL : Int → Int → Int := Classical.choose xshlL_ex
theorem xshlL_eq (x y : Int) : xshlL x y = xw64 (x * 2 ^ (y % 64).toNat) := Classical.choose_spec xshlL_ex x y
theorem xushrL_ex : ∃ f : Int → Int → Int, ∀ x y : Int, f x y = xw64 ((x % 18446744073709551616) / 2 ^ (y % 64).toNat) := ⟨fun x y => xw64 ((x % 18446744073709551616) / 2 ^ (y % 64).toNat), fun _ _ => rfl⟩
def xushrL : Int → Int → Int := Classical.choose xushrL_ex
theorem xushrL_eq (x y : Int) : xushrL x y = xw64 ((x % 18446744073709551616) / 2 ^ (y % 64).toNat) := Classical.choose_spec xushrL_ex x y
theorem xdivL_ex : ∃ f : Int → Int → Int, ∀ x y : Int, f x y = xw64 (Int.tdiv x y) := ⟨fun x y => xw64 (Int.tdiv x y), fun _ _ => rfl⟩
def xdivL : Int → Int → Int := Classical.choose xdivL_ex
theorem xdivL_eq (x y : Int) : xdivL x y = xw64 (Int.tdiv x y) := Classical.choose_spec xdivL_ex x y
theorem xcmpL_ex : ∃ f : Int → Int → Int, ∀ x y : Int, f x y = if x < y then -1 else if x = y then 0 else 1 := ⟨fun x y => if x < y then -1 else if x = y then 0 else 1, fun _ _ => rfl⟩
def xcmpL : Int → Int → Int := Classical.choose xcmpL_ex
theorem xcmpL_eq (x y : Int) : xcmpL x y = if x < y then -1 else if x = y then 0 else 1 := Classical.choose_spec xcmpL_ex x y
theorem xbit_ex : ∃ f : Int → Int, ∀ x : Int, f x = x % 2 := ⟨fun x => x % 2, fun _ => rfl⟩
def xbit : Int → Int := Classical.choose xbit_ex
theorem xbit_eq (x : Int) : xbit x = x % 2 := Classical.choose_spec xbit_ex x
def xwr (M : xM) (a i v : Int) : xM := fun x y => if x = a ∧ y = i then v else M x y
def xib (c : Nat) (x y : Int) : Option Prop × Int := match c with
  | 0 => (none, xw32 (x + y))
  | 1 => (none, xw32 (x - y))
  | 2 => (none, xw32 (x * y))
  | 3 => (none, xand x y)
  | 4 => (none, xor32 x y)
  | 5 => (none, xxor x y)
  | 6 => (none, xshl x y)
  | 7 => (none, xshr x y)
  | 8 => (some (y ≠ 0), xrem x y)
  | 9 => (some (y ≠ 0), xdiv x y)
  | _ => (none, xushr x y)
def xlb (c : Nat) (x y : Int) : Option Prop × Int := match c with
  | 0 => (none, xw64 (x + y))
  | 1 => (none, xw64 (x - y))
  | 2 => (none, xw64 (x * y))
  | 3 => (none, xandL x y)
  | 4 => (none, xorL x y)
  | 5 => (none, xxorL x y)
  | 8 => (some (y ≠ 0), xrem x y)
  | _ => (some (y ≠ 0), xdivL x y)
def xcv (c : Nat) (x : Int) : Nat × Nat × Int := match c with
  | 0 => (0, 1, x)
  | 1 => (1, 0, xw32 x)
  | 2 => (0, 0, xw8 x)
  | _ => (0, 0, xw16 x)
/-- a branch: where to, by the condition's number -/
def xbr (c : Int) (x y : Int) (a n : Nat) : Nat := match c with
  | 0 => if x = y then a else n
  | 1 => if x = y then n else a
  | 2 => if x < y then a else n
  | 3 => if x < y then n else a
  | 4 => if y < x then a else n
  | _ => if y < x then n else a
def xget : xL → Nat → Option xV
  | [], _ => none
  | a :: _, 0 => a
  | _ :: l, n + 1 => xget l n
def xset : xL → Nat → Option xV → xL
  | [], _, _ => []
  | _ :: l, 0, v => v :: l
  | a :: l, n + 1, v => a :: xset l n v
def xclr (ls : xL) (i : Nat) : xL := match i with
  | 0 => ls
  | j + 1 => match xget ls j with
    | some (1, _) => xset ls j none
    | _ => ls
def xsto (ls : xL) (i : Nat) (v : xV) : xL := match v with
  | (1, x) => xset (xset (xclr ls i) i (some (1, x))) (i + 1) none
  | v => xset (xclr ls i) i (some v)
def xtag (t : Int) (v : xV) : Bool := match t with
  | 0 => Nat.beq v.1 0
  | 1 => Nat.beq v.1 1
  | _ => Nat.ble 2 v.1
/-- numeric arrays: kind, then (0 int, 1 byte, 2 boolean, 3 long), length -/
def xak (k : Nat) : Option (Nat × Int) := match k with
  | 20 => some (1, 1600)
  | 21 => some (0, 9)
  | 22 => some (0, 18)
  | 23 => some (0, 24)
  | 24 => some (3, 9)
  | 25 => some (3, 8)
  | 26 => some (0, 512)
  | 27 => some (2, 3)
  | 28 => some (3, 60)
  | 29 => some (0, 4)
  | 30 => some (3, 240)
  | 31 => some (0, 5)
  | 32 => some (0, 35)
  | 33 => some (0, 270)
  | 34 => some (0, 120)
  | 35 => some (0, 160)
  | 36 => some (0, 48)
  | 37 => some (2, 12800)
  | 38 => some (0, 12800)
  | _ => none
/-- arrays of references: kind of the elements, length, where the first lies behind the array, how far the next -/
def xrk (k : Nat) : Option (Nat × Int × Int × Int) := match k with
  | 60 => some (6, 3, 3, 11)
  | 61 => some (9, 4, 34, 2)
  | 62 => some (8, 25, 2, 4)
  | 63 => some (8, 25, 3, 4)
  | _ => none
def xlack (i : Int) : Int := if i = 0 then 6148914691236517205 else if i = 1 then 3689348814741910323 else if i = 2 then 1085102592571150095 else if i = 3 then 71777214294589695 else if i = 4 then 281470681808895 else 4294967295
def xstr (k : Nat) : List Int := match k with
  | 0 => [99, 101, 108, 108]
  | 1 => [113, 117, 97, 114, 114, 101, 108]
  | 2 => [115, 108, 101, 101, 112, 115]
  | 3 => [115, 111, 117, 112]
  | 4 => [112, 108, 97, 110]
  | 5 => [112, 114, 105, 115, 111, 110]
  | 6 => [99, 101, 108, 108, 115]
  | 7 => [104, 111, 117, 114, 115]
  | 8 => [114, 105, 110, 103]
  | 9 => [114, 111, 119]
  | 10 => [116, 101, 109, 112, 101, 114]
  | 11 => [108, 101, 102, 116]
  | 12 => [114, 105, 103, 104, 116]
  | 13 => [108, 111, 121, 97, 108]
  | 14 => [102, 114, 111, 109]
  | 15 => [116, 111]
  | 16 => [103, 105, 118, 101, 115]
  | 17 => [105, 110]
  | 18 => [102, 114, 105, 101, 110, 100, 108, 121]
  | 19 => [112, 105, 111, 117, 115]
  | 20 => [109, 111, 111, 100, 121]
  | 21 => [100, 101, 97, 102]
  | _ => []
def xnar (t : Nat) (x : Int) : Int := match t with
  | 0 => x
  | 1 => xw8 x
  | 2 => xbit x
  | _ => x
/-- n places of cell b from j on become those of cell a from i on, as they were -/
def xcpy (M : xM) (a i b j n : Int) : xM := fun x y => if x = b ∧ j ≤ y ∧ y < j + n then M a (y - j + i) else M x y
def xpad : Nat → xL → xL
  | 0, _ => []
  | n + 1, [] => none :: xpad n []
  | n + 1, v :: l => v :: xpad n l
def xargs : List xV → xL
  | [] => []
  | (1, x) :: l => some (1, x) :: none :: xargs l
  | v :: l => some v :: xargs l
def xcat : List xV → Nat
  | [] => 0
  | (1, _) :: l => 2 + xcat l
  | _ :: l => 1 + xcat l
/-- n values off the stack, in the order in which they were pushed, and the rest -/
def xpop : Nat → List xV → List xV → Option (List xV × List xV)
  | 0, acc, st => some (acc, st)
  | n + 1, acc, v :: st => xpop n (v :: acc) st
  | _ + 1, _, [] => none
def xlook (x : Int) (d : Nat) : List Nat → Nat
  | k :: t :: l => if x = k then t else xlook x d l
  | _ => d
def xtab (x : Int) (d : Nat) : List Nat → Nat
  | [] => d
  | t :: l => if x = 0 then t else xtab (x - 1) d l
/-- the receiver is of the class that the call names -/
def xrcv (l : List Nat) (as : List xV) : Bool := match l with
  | [] => true
  | c :: _ => match as with
    | v :: _ => Nat.beq v.1 (c + 2)
    | [] => false
def xgo (c : Option Prop) (y : xC) : xO := some (c, .inl y)
/-- one instruction; maxL: the locals of a method -/
def xins (maxL : Nat → Nat) (m : Nat) (e : xE) (ls : xL) (st : List xV) (M : xM) : xO := match e with
  | (op, a, b, l, n) => match op with
    | 0 => match xget ls a with
      | some v => bif xtag b v then xgo none (m, n, ls, v :: st, M) else none
      | none => none
    | 1 => match st with
      | v :: st => bif xtag b v then xgo none (m, n, xsto ls a v, st, M) else none
      | _ => none
    | 2 => xgo none (m, n, ls, (0, b) :: st, M)
    | 3 => xgo none (m, n, ls, (1, b) :: st, M)
    | 4 => match st with
      | (0, y) :: (0, x) :: st => xgo (xib a x y).1 (m, n, ls, (0, (xib a x y).2) :: st, M)
      | _ => none
    | 5 => match st with
      | (1, y) :: (1, x) :: st => xgo (xlb a x y).1 (m, n, ls, (1, (xlb a x y).2) :: st, M)
      | _ => none
    | 6 => match st with
      | (0, y) :: (1, x) :: st => match a with
        | 6 => xgo none (m, n, ls, (1, xshlL x y) :: st, M)
        | _ => xgo none (m, n, ls, (1, xushrL x y) :: st, M)
      | _ => none
    | 7 => match st with
      | (1, y) :: (1, x) :: st => xgo none (m, n, ls, (0, xcmpL x y) :: st, M)
      | _ => none
    | 8 => match st with
      | (t, x) :: st => match xcv a x with
        | (t0, t1, z) => bif Nat.beq t t0 then xgo none (m, n, ls, (t1, z) :: st, M) else none
      | _ => none
    | 9 => match xget ls a with
      | some (0, x) => xgo none (m, n, xset ls a (some (0, xw32 (x + b))), st, M)
      | _ => none
    | 10 => match st with
      | (0, x) :: st => xgo none (m, n, ls, (0, x) :: (0, x) :: st, M)
      | (k + 2, x) :: st => xgo none (m, n, ls, (k + 2, x) :: (k + 2, x) :: st, M)
      | _ => none
    | 11 => match st with
      | (0, x) :: (k + 2, y) :: st => xgo none (m, n, ls, (0, x) :: (k + 2, y) :: (0, x) :: (k + 2, y) :: st, M)
      | _ => none
    | 12 => match st with
      | (0, _) :: st => xgo none (m, n, ls, st, M)
      | _ => none
    | 13 => match st with
      | (0, x) :: st => xgo none (m, xbr b x 0 a n, ls, st, M)
      | _ => none
    | 14 => match st with
      | (0, y) :: (0, x) :: st => xgo none (m, xbr b x y a n, ls, st, M)
      | _ => none
    | 15 => xgo none (m, a, ls, st, M)
    | 16 => match st with
      | (0, x) :: st => xgo none (m, if x < b then a else xtab (x - b) a l, ls, st, M)
      | _ => none
    | 17 => match st with
      | (0, x) :: st => xgo none (m, xlook x a l, ls, st, M)
      | _ => none
    | 18 => match st, l with
      | (k + 2, o) :: st, [c] => bif Nat.beq k c then (match b with
        | 0 => xgo none (m, n, ls, (0, M o a) :: st, M)
        | _ => xgo none (m, n, ls, (1, M o a) :: st, M)) else none
      | _, _ => none
    | 19 => match st, l with
      | (k + 2, o) :: st, [c, d] => bif Nat.beq k c then xgo none (m, n, ls, (d + 2, o + b) :: st, M) else none
      | _, _ => none
    | 20 => match st, l with
      | (t, x) :: (k + 2, o) :: st, [c] => bif Nat.beq k c then (match b, t with
        | 0, 0 => xgo none (m, n, ls, st, xwr M o a x)
        | 1, 1 => xgo none (m, n, ls, st, xwr M o a x)
        | 2, 0 => xgo (some (x = 0 ∨ x = 1)) (m, n, ls, st, xwr M o a x)
        | _, _ => none) else none
      | _, _ => none
    | 21 => match st with
      | (0, i) :: (k + 2, o) :: st => match a, k with
        | 3, 50 => xgo (some (0 ≤ i ∧ i < 6)) (m, n, ls, (1, xlack i) :: st, M)
        | 0, 51 => xgo (some (0 ≤ i ∧ i < M 0 4000)) (m, n, ls, (0, M 0 i) :: st, M)
        | a, k => match xak k with
          | some (t, len) => match a, t with
            | 0, 0 => xgo (some (0 ≤ i ∧ i < len)) (m, n, ls, (0, M o i) :: st, M)
            | 1, 1 => xgo (some (0 ≤ i ∧ i < len)) (m, n, ls, (0, M o i) :: st, M)
            | 1, 2 => xgo (some (0 ≤ i ∧ i < len)) (m, n, ls, (0, M o i) :: st, M)
            | 3, 3 => xgo (some (0 ≤ i ∧ i < len)) (m, n, ls, (1, M o i) :: st, M)
            | _, _ => none
          | none => none
      | _ => none
    | 22 => match st with
      | (t, x) :: (0, i) :: (k + 2, o) :: st => match xak k with
        | some (u, len) => match a, t, u with
          | 0, 0, 0 => xgo (some (0 ≤ i ∧ i < len)) (m, n, ls, st, xwr M o i x)
          | 1, 0, 1 => xgo (some (0 ≤ i ∧ i < len)) (m, n, ls, st, xwr M o i (xw8 x))
          | 1, 0, 2 => xgo (some (0 ≤ i ∧ i < len)) (m, n, ls, st, xwr M o i (xbit x))
          | 3, 1, 3 => xgo (some (0 ≤ i ∧ i < len)) (m, n, ls, st, xwr M o i x)
          | _, _, _ => none
        | none => none
      | _ => none
    | 23 => match st with
      | (0, i) :: (k + 2, o) :: st => match xrk k with
        | some (d, len, off, str) => xgo (some (0 ≤ i ∧ i < len)) (m, n, ls, (d + 2, o + off + str * i) :: st, M)
        | none => none
      | _ => none
    | 24 => match st with
      | (k + 2, _) :: st => match k with
        | 50 => xgo none (m, n, ls, (0, 6) :: st, M)
        | 51 => xgo none (m, n, ls, (0, M 0 4000) :: st, M)
        | k => match xak k with
          | some (_, len) => xgo none (m, n, ls, (0, len) :: st, M)
          | none => none
      | _ => none
    | 25 => match xpop b.toNat [] st with
      | some (as, st) => bif xrcv l as && (Nat.ble (xcat st) 8 && Nat.ble (xargs as).length (maxL a)) then some (none, .inr (.inr ((a, 0, xpad (maxL a) (xargs as), [], M), fun r => (m, n, ls, r.1.toList ++ st, r.2)))) else none
      | none => none
    | 26 => match b with
      | 3 => match st with
        | [(0, x)] => some (some (x = 0 ∨ x = 1), .inr (.inl (some (0, x), M)))
        | _ => none
      | b => match st with
        | [v] => bif xtag b v then some (none, .inr (.inl (some v, M))) else none
        | _ => none
    | 27 => match st with
      | [] => some (none, .inr (.inl (none, M)))
      | _ => none
    | 28 => bif Nat.ble (xcat st) 8 then (match a with
      | 0 => match st with
        | (54, s) :: st => xgo none (m, n, ls, (0, ((xstr s.toNat).length : Int)) :: st, M)
        | _ => none
      | 1 => match st with
        | (0, i) :: (54, s) :: st => xgo (some (0 ≤ i ∧ i < ((xstr s.toNat).length : Int))) (m, n, ls, (0, (xstr s.toNat).getD i.toNat 0) :: st, M)
        | _ => none
      | _ => match st with
        | (0, c) :: (0, j) :: (kb + 2, ob) :: (0, i) :: (ka + 2, oa) :: st => match xak ka, xak kb with
          | some (ta, la), some (tb, lb) => match ta, tb with
            | 0, 0 => xgo (some (0 ≤ c ∧ 0 ≤ i ∧ 0 ≤ j ∧ i + c ≤ la ∧ j + c ≤ lb)) (m, n, ls, st, xcpy M oa i ob j c)
            | 3, 3 => xgo (some (0 ≤ c ∧ 0 ≤ i ∧ 0 ≤ j ∧ i + c ≤ la ∧ j + c ≤ lb)) (m, n, ls, st, xcpy M oa i ob j c)
            | _, _ => none
          | _, _ => none
        | _ => none) else none
    | 29 => xgo none (m, n, ls, (52, -1) :: st, M)
    | 30 => xgo none (m, n, ls, (54, a) :: st, M)
    | _ => none
section xRun
variable (maxL : Nat → Nat) (fetch : Nat → Nat → Option xE)
def xstp (x : xC) : xO := match fetch x.1 x.2.1 with
  | some e => xins maxL x.1 e x.2.2.1 x.2.2.2.1 x.2.2.2.2
  | none => none
def xcond (c : Option Prop) : Prop := match c with
  | none => True
  | some p => p
def xEvF : Nat → xC → xR → Prop
  | 0, _, _ => False
  | f + 1, x, r => match xstp maxL fetch x with
    | none => False
    | some (c, .inl y) => xcond c ∧ xEvF f y r
    | some (c, .inr (.inl q)) => xcond c ∧ q = r
    | some (c, .inr (.inr (y, k))) => xcond c ∧ ∃ q, xEvF f y q ∧ xEvF f (k q) r
def xEvG (x : xC) (r : xR) : Prop := ∃ f, xEvF maxL fetch f x r
theorem xEvF_s : ∀ (f : Nat) (x : xC) (r : xR), xEvF maxL fetch f x r → xEvF maxL fetch (f + 1) x r
  | 0, _, _, h => h.elim
  | f + 1, x, r, h => by
    unfold xEvF at h ⊢
    split
    · next e => rw [e] at h; exact h
    · next c y e =>
      rw [e] at h
      exact ⟨h.1, xEvF_s f y r h.2⟩
    · next c q e => rw [e] at h; exact h
    · next c y k e =>
      rw [e] at h
      obtain ⟨hc, q, h1, h2⟩ := h
      exact ⟨hc, q, xEvF_s f y q h1, xEvF_s f _ r h2⟩
theorem xEvF_le {f g : Nat} (hfg : f ≤ g) {x : xC} {r : xR} (h : xEvF maxL fetch f x r) : xEvF maxL fetch g x r := by
  obtain ⟨d, rfl⟩ := Nat.le.dest hfg
  induction d with
  | zero => exact h
  | succ d ih => exact xEvF_s maxL fetch _ x r (ih (by omega))
def xsteps : Nat → xC → Option (Prop × xC)
  | 0, x => some (True, x)
  | n + 1, x => match xstp maxL fetch x with
    | some (c, .inl y) => (match xsteps n y with
      | some (D, z) => some ((match c with | none => D | some p => p ∧ D), z)
      | none => none)
    | _ => none
theorem xEvG_n (n : Nat) : ∀ {x y : xC} {C : Prop} {r : xR}, xsteps maxL fetch n x = some (C, y) → C → xEvG maxL fetch y r → xEvG maxL fetch x r := by
  induction n with
  | zero =>
    intro x y C r h hc k
    simp only [xsteps, Option.some.injEq, Prod.mk.injEq] at h
    obtain ⟨rfl, rfl⟩ := h
    exact k
  | succ n ih =>
    intro x y C r h hc k
    unfold xsteps at h
    split at h
    · next c y' e =>
      split at h
      · next D z e2 =>
        cases c with
        | none =>
          simp only [Option.some.injEq, Prod.mk.injEq] at h
          obtain ⟨rfl, rfl⟩ := h
          obtain ⟨f, hf⟩ := ih e2 hc k
          exact ⟨f + 1, by unfold xEvF; rw [e]; exact ⟨trivial, hf⟩⟩
        | some p =>
          simp only [Option.some.injEq, Prod.mk.injEq] at h
          obtain ⟨rfl, rfl⟩ := h
          obtain ⟨f, hf⟩ := ih e2 hc.2 k
          exact ⟨f + 1, by unfold xEvF; rw [e]; exact ⟨hc.1, hf⟩⟩
      · cases h
    · cases h
theorem xEvG_ret {x : xC} {r : xR} (h : xstp maxL fetch x = some (none, .inr (.inl r))) : xEvG maxL fetch x r := ⟨1, by unfold xEvF; rw [h]; exact ⟨trivial, rfl⟩⟩
theorem xEvG_retc {x : xC} {r : xR} {p : Prop} (h : xstp maxL fetch x = some (some p, .inr (.inl r))) (hp : p) : xEvG maxL fetch x r := ⟨1, by unfold xEvF; rw [h]; exact ⟨hp, rfl⟩⟩
theorem xEvG_call {x y : xC} {k : xR → xC} {q r : xR} (h : xstp maxL fetch x = some (none, .inr (.inr (y, k)))) (h1 : xEvG maxL fetch y q) (h2 : xEvG maxL fetch (k q) r) : xEvG maxL fetch x r := by
  obtain ⟨f, hf⟩ := h1
  obtain ⟨g, hg⟩ := h2
  refine ⟨max f g + 1, ?_⟩
  unfold xEvF
  rw [h]
  exact ⟨trivial, q, xEvF_le maxL fetch (Nat.le_max_left f g) hf, xEvF_le maxL fetch (Nat.le_max_right f g) hg⟩
theorem xEvG_br {m a b : Nat} {ls : xL} {st : List xV} {M : xM} {r : xR} {c : Prop} [Decidable c] (h1 : c → xEvG maxL fetch (m, a, ls, st, M) r) (h2 : ¬ c → xEvG maxL fetch (m, b, ls, st, M) r) : xEvG maxL fetch (m, if c then a else b, ls, st, M) r := by
  by_cases h : c
  · rw [if_pos h]; exact h1 h
  · rw [if_neg h]; exact h2 h
end xRun
end
