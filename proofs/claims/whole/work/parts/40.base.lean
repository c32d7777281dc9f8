/-! what a run comes to; numbers and bits of the abstract machine as plain facts -/
noncomputable section
def xP {α : Type} (o : Option α) (Q : α → Prop) : Prop := ∃ v, o = some v ∧ Q v
theorem xP_some {α : Type} {v : α} {Q : α → Prop} (h : Q v) : xP (some v) Q := ⟨v, rfl, h⟩
theorem xP_A {α : Type} {c : Prop} [Decidable c] {a : Option α} {Q : α → Prop} (hc : c) (h : xP a Q) : xP (xA c a) Q := by
  unfold xA; rw [if_pos hc]; exact h
theorem xP_B {α β : Type} {q : Option α} {k : α → Option β} {Q : α → Prop} {R : β → Prop} (h : xP q Q) (hk : ∀ v, Q v → xP (k v) R) : xP (xB q k) R := by
  obtain ⟨v, rfl, hv⟩ := h
  exact hk v hv
theorem xP_if {α : Type} {c : Prop} [Decidable c] {a b : Option α} {Q : α → Prop} (h1 : c → xP a Q) (h2 : ¬ c → xP b Q) : xP (if c then a else b) Q := by
  by_cases h : c
  · rw [if_pos h]; exact h1 h
  · rw [if_neg h]; exact h2 h
theorem xP_mono {α : Type} {o : Option α} {Q R : α → Prop} (h : xP o Q) (hq : ∀ v, Q v → R v) : xP o R := by
  obtain ⟨v, e, hv⟩ := h
  exact ⟨v, e, hq v hv⟩
theorem xP_e {α : Type} {o : Option α} {v : α} (h : xP o (fun w => w = v)) : o = some v := by
  obtain ⟨w, e, rfl⟩ := h
  exact e
theorem xP_of {α : Type} {o : Option α} {v : α} {Q : α → Prop} (h : o = some v) (hq : Q v) : xP o Q := ⟨v, h, hq⟩
theorem xA_p {α : Type} {c : Prop} [Decidable c] {a : Option α} (hc : c) : xA c a = a := if_pos hc
theorem xB_s {α β : Type} {v : α} {k : α → Option β} : xB (some v) k = k v := rfl
/-- what a run leaves alone: the cells outside lo .. hi -/
def xF (lo hi : Int) (M m : xM) : Prop := ∀ a : Int, (a < lo ∨ hi < a) → m a = M a
theorem xF_rfl (lo hi : Int) (M : xM) : xF lo hi M M := fun _ _ => rfl
theorem xF_tr {lo hi : Int} {M m k : xM} (h1 : xF lo hi M m) (h2 : xF lo hi m k) : xF lo hi M k := fun a h => (h2 a h).trans (h1 a h)
theorem xF_w {lo hi lo' hi' : Int} {M m : xM} (h : xF lo hi M m) (h1 : lo' ≤ lo) (h2 : hi ≤ hi') : xF lo' hi' M m := fun a ha => h a (by omega)
theorem xwr_s (M : xM) (a i v : Int) : xwr M a i v a i = v := by unfold xwr; rw [if_pos ⟨rfl, rfl⟩]
theorem xwr_n (M : xM) {a i v b j : Int} (h : ¬ (b = a ∧ j = i)) : xwr M a i v b j = M b j := by unfold xwr; rw [if_neg h]
theorem xwr_a (M : xM) {a i v b : Int} (h : b ≠ a) : xwr M a i v b = M b := by funext j; exact xwr_n M (fun e => h e.1)
theorem xwr_at (M : xM) (a i v b j : Int) : xwr M a i v b j = if b = a ∧ j = i then v else M b j := rfl
theorem xwr_F {M m : xM} {lo hi a i v : Int} (h : xF lo hi M m) (h1 : lo ≤ a) (h2 : a ≤ hi) : xF lo hi M (xwr m a i v) := fun b hb => (xwr_a m (by omega)).trans (h b hb)
theorem xcpy_at (M : xM) (a i b j n x y : Int) : xcpy M a i b j n x y = if x = b ∧ j ≤ y ∧ y < j + n then M a (y - j + i) else M x y := rfl
theorem xcpy_a (M : xM) {a i b j n x : Int} (h : x ≠ b) : xcpy M a i b j n x = M x := by funext y; rw [xcpy_at, if_neg (fun e => h e.1)]
theorem xcpy_F {M m : xM} {lo hi a i b j n : Int} (h : xF lo hi M m) (h1 : lo ≤ b) (h2 : b ≤ hi) : xF lo hi M (xcpy m a i b j n) := fun x hx => (xcpy_a m (by omega)).trans (h x hx)
theorem xw32_id {x : Int} (h1 : -2147483648 ≤ x) (h2 : x < 2147483648) : xw32 x = x := by rw [xw32_eq]; omega
theorem xw64_id {x : Int} (h1 : -9223372036854775808 ≤ x) (h2 : x < 9223372036854775808) : xw64 x = x := by rw [xw64_eq]; omega
theorem xw8_id {x : Int} (h1 : -128 ≤ x) (h2 : x < 128) : xw8 x = x := by rw [xw8_eq]; omega
theorem xw8_rg (x : Int) : -128 ≤ xw8 x ∧ xw8 x < 128 := by rw [xw8_eq]; omega
theorem xw8_i (x : Int) : xw8 (xw8 x) = xw8 x := xw8_id (xw8_rg x).1 (xw8_rg x).2
theorem xbit_0 : xbit 0 = 0 := by rw [xbit_eq]; rfl
theorem xbit_1 : xbit 1 = 1 := by rw [xbit_eq]; rfl
theorem xcmp_lt (x y : Int) : xcmpL x y < 0 ↔ x < y := by rw [xcmpL_eq]; split <;> (try split) <;> omega
theorem xcmp_gt (x y : Int) : 0 < xcmpL x y ↔ y < x := by rw [xcmpL_eq]; split <;> (try split) <;> omega
theorem xcmp_0 (x y : Int) : xcmpL x y = 0 ↔ x = y := by rw [xcmpL_eq]; split <;> (try split) <;> omega
theorem xrem_n {x y : Int} (h : 0 ≤ x) : xrem x y = x % y := by rw [xrem_eq, Int.tmod_eq_emod_of_nonneg h]
theorem xdiv_n {x y : Int} (h : 0 ≤ x) (hx : x < 2147483648) (hy : 0 < y) : xdiv x y = x / y := by
  rw [xdiv_eq, Int.tdiv_eq_ediv_of_nonneg h]
  have h1 : 0 ≤ x / y := Int.ediv_nonneg h (by omega)
  have h2 : x / y ≤ x := Int.ediv_le_self y h
  exact xw32_id (by omega) (by omega)
theorem fQ_in_s (a lo hi : Int) (M : xM) : fQ_in a lo hi M = if lo ≤ a ∧ a ≤ hi then 1 else 0 := by
  unfold fQ_in
  simp only [xcmp_lt, xcmp_gt]
  (repeat' split) <;> omega
/-! bits of ints -/
def xbt (s c : Int) : Bool := (BitVec.ofInt 32 s).getLsbD c.toNat
theorem xbt_and (x y c : Int) : xbt (xand x y) c = (xbt x c && xbt y c) := by unfold xbt; rw [xand_eq, BitVec.ofInt_toInt, BitVec.getLsbD_and]
theorem xbt_or (x y c : Int) : xbt (xor32 x y) c = (xbt x c || xbt y c) := by unfold xbt; rw [xor32_eq, BitVec.ofInt_toInt, BitVec.getLsbD_or]
theorem xbt_xor (x y c : Int) : xbt (xxor x y) c = (xbt x c ^^ xbt y c) := by unfold xbt; rw [xxor_eq, BitVec.ofInt_toInt, BitVec.getLsbD_xor]
theorem xpow_split {k : Nat} (h : k < 32) : (4294967296 : Int) = 2 ^ k * (2 * 2 ^ (31 - k)) := by
  have e : (2 : Int) ^ k * (2 * 2 ^ (31 - k)) = 2 ^ 32 := by
    rw [← Int.mul_assoc, Int.mul_comm (2 ^ k) 2, Int.mul_assoc, ← Int.pow_add, show k + (31 - k) = 31 by omega]; rfl
  rw [e]; rfl
theorem xmod_div (s : Int) {k : Nat} (h : k < 32) : s % 4294967296 / 2 ^ k % 2 = s / 2 ^ k % 2 := by
  have h0 : (2 : Int) ^ k ≠ 0 := Int.ne_of_gt (Int.pow_pos (by decide))
  have e : s = s % 4294967296 + 2 ^ k * (2 * 2 ^ (31 - k) * (s / 4294967296)) := by
    rw [← Int.mul_assoc, ← xpow_split h]; omega
  have e2 : s / 2 ^ k = s % 4294967296 / 2 ^ k + 2 * 2 ^ (31 - k) * (s / 4294967296) := by
    conv => lhs; rw [e]
    rw [Int.add_mul_ediv_left _ _ h0]
  rw [e2, Int.mul_assoc]
  omega
theorem xbt_div (s : Int) {c : Int} (h0 : 0 ≤ c) (h : c < 32) : xbt s c = decide (s / 2 ^ c.toNat % 2 = 1) := by
  have hk : c.toNat < 32 := by omega
  have e : (((s % ((2 ^ 32 : Nat) : Int)).toNat / 2 ^ c.toNat % 2 : Nat) : Int) = s / 2 ^ c.toNat % 2 := by
    rw [Int.natCast_emod, Int.natCast_ediv, Int.toNat_of_nonneg (Int.emod_nonneg _ (by decide)), Int.natCast_pow]
    exact xmod_div s hk
  show (BitVec.ofInt 32 s).toNat.testBit c.toNat = _
  rw [BitVec.toNat_ofInt, Nat.testBit_eq_decide_div_mod_eq]
  apply decide_eq_decide.mpr
  omega
theorem xbt_w32 (y c : Int) : xbt (xw32 y) c = xbt y c := by
  unfold xbt
  have e : BitVec.ofInt 32 (xw32 y) = BitVec.ofInt 32 y := by
    apply BitVec.eq_of_toNat_eq
    rw [BitVec.toNat_ofInt, BitVec.toNat_ofInt, xw32_eq]
    congr 1
    show ((y + 2147483648) % 4294967296 - 2147483648) % 4294967296 = y % 4294967296
    omega
  rw [e]
theorem xbt_pw : ∀ c, c < 32 → ∀ d, d < 32 → (BitVec.ofInt 32 ((2 : Int) ^ c)).getLsbD d = decide (d = c) := by decide +kernel
theorem xshl_pw {c : Int} (x : Int) (h0 : 0 ≤ c) (h : c < 32) : xshl x c = xw32 (x * 2 ^ c.toNat) := by
  rw [xshl_eq, Int.emod_eq_of_lt h0 h]
theorem xshr_pw {c : Int} (x : Int) (h0 : 0 ≤ c) (h : c < 32) : xshr x c = x / 2 ^ c.toNat := by
  rw [xshr_eq, Int.emod_eq_of_lt h0 h]
theorem xbt_shl1 {c d : Int} (h0 : 0 ≤ c) (h : c < 32) (h1 : 0 ≤ d) (h2 : d < 32) : xbt (xshl 1 c) d = decide (d = c) := by
  rw [xshl_pw 1 h0 h, xbt_w32, Int.one_mul]
  unfold xbt
  rw [xbt_pw _ (by omega) _ (by omega)]
  apply decide_eq_decide.mpr
  omega
theorem xshl_0 (c : Int) : xshl 0 c = 0 := by rw [xshl_eq, Int.zero_mul]; exact xw32_id (by decide) (by decide)
theorem xbt_0 (c : Int) : xbt 0 c = false := by unfold xbt; rw [show BitVec.ofInt 32 0 = 0#32 from rfl, BitVec.getLsbD_zero]
theorem xbt_m1k : ∀ d, d < 32 → (BitVec.ofInt 32 (-1)).getLsbD d = true := by decide +kernel
theorem xbt_m1 {d : Int} (h0 : 0 ≤ d) (h : d < 32) : xbt (-1) d = true := by unfold xbt; exact xbt_m1k _ (by omega)
theorem xbt_not (x : Int) {d : Int} (h0 : 0 ≤ d) (h : d < 32) : xbt (xxor x (-1)) d = !xbt x d := by rw [xbt_xor, xbt_m1 h0 h]; cases xbt x d <;> rfl
theorem xand_nat {a b : Nat} (ha : a < 2147483648) (hb : b < 2147483648) : xand (a : Int) (b : Int) = ((a &&& b : Nat) : Int) := by
  rw [xand_eq]
  have e : (BitVec.ofInt 32 (a : Int) &&& BitVec.ofInt 32 (b : Int)).toNat = a &&& b := by
    rw [BitVec.toNat_and, BitVec.toNat_ofInt, BitVec.toNat_ofInt]
    have h1 : ((a : Int) % ((2 ^ 32 : Nat) : Int)).toNat = a := by omega
    have h2 : ((b : Int) % ((2 ^ 32 : Nat) : Int)).toNat = b := by omega
    rw [h1, h2]
  have hl : a &&& b ≤ a := Nat.and_le_left
  rw [BitVec.toInt_eq_toNat_of_lt (by rw [e]; omega), e]
theorem xor_nat {a b : Nat} (ha : a < 2147483648) (hb : b < 2147483648) : xor32 (a : Int) (b : Int) = ((a ||| b : Nat) : Int) := by
  rw [xor32_eq]
  have e : (BitVec.ofInt 32 (a : Int) ||| BitVec.ofInt 32 (b : Int)).toNat = a ||| b := by
    rw [BitVec.toNat_or, BitVec.toNat_ofInt, BitVec.toNat_ofInt]
    have h1 : ((a : Int) % ((2 ^ 32 : Nat) : Int)).toNat = a := by omega
    have h2 : ((b : Int) % ((2 ^ 32 : Nat) : Int)).toNat = b := by omega
    rw [h1, h2]
  have hl : a ||| b < 2 ^ 31 := Nat.or_lt_two_pow (by omega) (by omega)
  rw [BitVec.toInt_eq_toNat_of_lt (by rw [e]; omega), e]
theorem xand_mod (y : Int) {n : Nat} (hn : n ≤ 31) : xand y (2 ^ n - 1) = y % 2 ^ n := by
  have hp : (2 : Int) ^ n = ((2 ^ n : Nat) : Int) := by rw [Int.natCast_pow]; rfl
  have hle : 2 ^ n ≤ 2 ^ 31 := Nat.pow_le_pow_right (by decide) hn
  have hpos : 0 < 2 ^ n := Nat.two_pow_pos n
  rw [xand_eq]
  have e : (BitVec.ofInt 32 y &&& BitVec.ofInt 32 (2 ^ n - 1)).toNat = (y % 4294967296).toNat % 2 ^ n := by
    rw [BitVec.toNat_and, BitVec.toNat_ofInt, BitVec.toNat_ofInt]
    have h2 : (((2 : Int) ^ n - 1) % ((2 ^ 32 : Nat) : Int)).toNat = 2 ^ n - 1 := by
      rw [hp, Int.emod_eq_of_lt (by omega) (by omega)]; omega
    rw [h2, Nat.and_two_pow_sub_one_eq_mod]; rfl
  have hlt : (y % 4294967296).toNat % 2 ^ n < 2 ^ n := Nat.mod_lt _ hpos
  rw [BitVec.toInt_eq_toNat_of_lt (by rw [e]; omega), e, Int.natCast_emod, Int.toNat_of_nonneg (Int.emod_nonneg _ (by decide)), ← hp]
  apply Int.emod_emod_of_dvd
  have : (4294967296 : Int) = 2 ^ n * 2 ^ (32 - n) := by rw [← Int.pow_add, show n + (32 - n) = 32 by omega]; rfl
  rw [this]
  exact Int.dvd_mul_right _ _
theorem xand_1 (y : Int) : xand y 1 = y % 2 := xand_mod y (n := 1) (by decide)
theorem xand_7 (y : Int) : xand y 7 = y % 8 := xand_mod y (n := 3) (by decide)
theorem xand_63 (y : Int) : xand y 63 = y % 64 := xand_mod y (n := 6) (by decide)
theorem xbit_t (x : Int) {c : Int} (h0 : 0 ≤ c) (h : c < 32) : xand (xshr x c) 1 = if xbt x c then 1 else 0 := by
  rw [xshr_pw x h0 h, xand_1, xbt_div x h0 h]
  have : x / 2 ^ c.toNat % 2 = 0 ∨ x / 2 ^ c.toNat % 2 = 1 := by omega
  rcases this with e | e <;> simp [e]
theorem fD_bit_s (x : Int) {c : Int} (M : xM) (h0 : 0 ≤ c) (h : c < 32) : fD_bit x c M = if xbt x c then 1 else 0 := xbit_t x h0 h
theorem fQ_isBit_s (x : Int) {c : Int} (M : xM) (h0 : 0 ≤ c) (h : c < 32) : fQ_isBit x c M = if xbt x c then 1 else 0 := by
  unfold fQ_isBit
  rw [xbit_t x h0 h]
  cases xbt x c <;> rfl
theorem xbt_ext {x y : Int} (hx : x32 x) (hy : x32 y) (h : ∀ c : Int, 0 ≤ c → c < 32 → xbt x c = xbt y c) : x = y := by
  have e : BitVec.ofInt 32 x = BitVec.ofInt 32 y := BitVec.eq_of_getLsbD_eq (fun i hi => by
    have := h (i : Int) (by omega) (by omega)
    unfold xbt at this
    rwa [Int.toNat_natCast] at this)
  have e2 : Int32.ofInt x = Int32.ofInt y := congrArg Int32.ofBitVec e
  rw [← xi_to hx, ← xi_to hy, e2]
theorem xbt_hi {x : Int} {n : Nat} {d : Int} (h0 : 0 ≤ x) (h : x < 2 ^ n) (hn : (n : Int) ≤ d) (hd : d < 32) : xbt x d = false := by
  rw [xbt_div x (by omega) hd]
  have h2 : (2 : Int) ^ n ≤ 2 ^ d.toNat := by
    have := Nat.pow_le_pow_right (n := 2) (by decide) (show n ≤ d.toNat by omega)
    have a : (2 : Int) ^ n = ((2 ^ n : Nat) : Int) := by rw [Int.natCast_pow]; rfl
    have b : (2 : Int) ^ d.toNat = ((2 ^ d.toNat : Nat) : Int) := by rw [Int.natCast_pow]; rfl
    rw [a, b]; omega
  rw [Int.ediv_eq_zero_of_lt h0 (by omega)]
  rfl
theorem xbt_mk (n : Nat) (hn : n ≤ 31) {d : Int} (h0 : 0 ≤ d) (hd : d < 32) : xbt (2 ^ n - 1) d = decide (d < n) := by
  have a : ((2 : Int) ^ n - 1) = ((2 ^ n - 1 : Nat) : Int) := by
    have := Nat.two_pow_pos n
    have b : (2 : Int) ^ n = ((2 ^ n : Nat) : Int) := by rw [Int.natCast_pow]; rfl
    rw [b]; omega
  unfold xbt
  show (BitVec.ofInt 32 _).toNat.testBit _ = _
  have hle : 2 ^ n ≤ 2 ^ 31 := Nat.pow_le_pow_right (by decide) hn
  rw [BitVec.toNat_ofInt, a]
  have e : (((2 ^ n - 1 : Nat) : Int) % ((2 ^ 32 : Nat) : Int)).toNat = 2 ^ n - 1 := by omega
  rw [e, Nat.testBit_two_pow_sub_one]
  apply decide_eq_decide.mpr
  omega
theorem xbt_lo {x : Int} {n : Nat} (hx : x32 x) (hn : n ≤ 31) (h : ∀ d : Int, (n : Int) ≤ d → d < 32 → xbt x d = false) : 0 ≤ x ∧ x < 2 ^ n := by
  have e : x = xand x (2 ^ n - 1) := xbt_ext hx (xand_in _ _) (fun c h0 h1 => by
    rw [xbt_and, xbt_mk n hn h0 h1]
    by_cases hc : c < n
    · simp [hc]
    · rw [h c (by omega) h1]; rfl)
  rw [xand_mod x hn] at e
  have hp : (0 : Int) < 2 ^ n := Int.pow_pos (by decide)
  have h1 := Int.emod_nonneg x (show (2 : Int) ^ n ≠ 0 by omega)
  have h2 := Int.emod_lt_of_pos x hp
  omega
theorem xand_0 {x y : Int} : xand x y = 0 ↔ ∀ d : Int, 0 ≤ d → d < 32 → ¬ (xbt x d = true ∧ xbt y d = true) := by
  constructor
  · intro e d h0 h1 ⟨a, b⟩
    have := xbt_and x y d
    rw [e, xbt_0, a, b] at this
    cases this
  · intro h
    refine xbt_ext (xand_in _ _) (by constructor <;> decide) (fun c h0 h1 => ?_)
    rw [xbt_and, xbt_0]
    have := h c h0 h1
    cases hx : xbt x c <;> cases hy : xbt y c <;> first | rfl | exact absurd ⟨hx, hy⟩ this
/-- a set and one more -/
def xad (s c : Int) : Int := xor32 s (xshl 1 c)
theorem xbt_ad (s : Int) {c d : Int} (h0 : 0 ≤ c) (h : c < 32) (h1 : 0 ≤ d) (h2 : d < 32) : xbt (xad s c) d = (xbt s d || decide (d = c)) := by
  unfold xad; rw [xbt_or, xbt_shl1 h0 h h1 h2]
theorem xad_in (s c : Int) : x32 (xad s c) := xor_in _ _
theorem xad_rg {s c : Int} {n : Nat} (hs : 0 ≤ s) (hs2 : s < 2 ^ n) (hc : 0 ≤ c) (hcn : c < n) (hn : n ≤ 31) : 0 ≤ xad s c ∧ xad s c < 2 ^ n :=
  xbt_lo (xad_in s c) hn (fun d h1 h2 => by
    rw [xbt_ad s hc (by omega) (by omega) h2, xbt_hi hs hs2 h1 h2]
    simp; omega)
theorem xor_0r {s : Int} (hs : x32 s) : xor32 s 0 = s := xbt_ext (xor_in _ _) hs (fun c _ _ => by rw [xbt_or, xbt_0]; simp)
theorem xshl1_pw {n : Int} (h0 : 0 ≤ n) (h : n ≤ 30) : xshl 1 n = 2 ^ n.toNat ∧ 1 ≤ (2 : Int) ^ n.toNat ∧ (2 : Int) ^ n.toNat ≤ 1073741824 := by
  have hle : 2 ^ n.toNat ≤ 2 ^ 30 := Nat.pow_le_pow_right (by decide) (by omega)
  have hpos : 0 < 2 ^ n.toNat := Nat.two_pow_pos _
  have b : (2 : Int) ^ n.toNat = ((2 ^ n.toNat : Nat) : Int) := by rw [Int.natCast_pow]; rfl
  rw [xshl_pw 1 h0 (by omega), Int.one_mul, b]
  exact ⟨xw32_id (by omega) (by omega), by omega, by omega⟩
theorem xmsk {n : Int} (h0 : 0 ≤ n) (h : n ≤ 30) : xw32 (xshl 1 n - 1) = 2 ^ n.toNat - 1 := by
  obtain ⟨a, b, c⟩ := xshl1_pw h0 h
  rw [a]
  exact xw32_id (by omega) (by omega)
theorem xpw2 : ∀ n : Nat, n ≤ 9 → (2 : Int) ^ n ≤ 512 := by decide
theorem xad_9k : ∀ s, s < 512 → ∀ c, c < 9 → s ||| 2 ^ c = if s.testBit c then s else s + 2 ^ c := by decide +kernel
theorem xbt_nat (a k : Nat) (hk : k < 32) (ha : a < 4294967296) : xbt (a : Int) (k : Int) = a.testBit k := by
  unfold xbt
  show (BitVec.ofInt 32 (a : Int)).toNat.testBit (k : Int).toNat = _
  rw [BitVec.toNat_ofInt, Int.toNat_natCast]
  have h1 : ((a : Int) % ((2 ^ 32 : Nat) : Int)).toNat = a := by omega
  rw [h1]
theorem xad_nat {s c : Nat} (hs : s < 512) (hc : c < 9) : xad (s : Int) (c : Int) = ((s ||| 2 ^ c : Nat) : Int) := by
  have e := (xshl1_pw (n := (c : Int)) (by omega) (by omega)).1
  have b : (2 : Int) ^ (c : Int).toNat = ((2 ^ c : Nat) : Int) := by rw [Int.toNat_natCast, Int.natCast_pow]; rfl
  have hle : 2 ^ c ≤ 2 ^ 9 := Nat.pow_le_pow_right (by decide) (by omega)
  unfold xad
  rw [e, b, xor_nat (by omega) (by omega)]
theorem xad_9 {s c : Int} (hs : 0 ≤ s) (hs2 : s < 512) (hc : 0 ≤ c) (hc2 : c < 9) (hb : xbt s c = false) : xad s c = s + 2 ^ c.toNat := by
  obtain ⟨k, rfl⟩ := Int.eq_ofNat_of_zero_le hc
  obtain ⟨a, rfl⟩ := Int.eq_ofNat_of_zero_le hs
  have hb2 : a.testBit k = false := by rw [← xbt_nat a k (by omega) (by omega)]; exact hb
  rw [xad_nat (by omega) (by omega), xad_9k a (by omega) k (by omega), hb2, Int.toNat_natCast]
  simp
theorem xad_has {s c : Int} (hs : 0 ≤ s) (hs2 : s < 512) (hc : 0 ≤ c) (hc2 : c < 9) (hb : xbt s c = true) : xad s c = s :=
  xbt_ext (xad_in s c) (by constructor <;> omega) (fun d h0 h1 => by
    rw [xbt_ad s hc (by omega) h0 h1]
    by_cases e : d = c
    · subst e; simp [hb]
    · simp [e])
/-! words of 64 -/
def xbl (w j : Int) : Bool := (BitVec.ofInt 64 w).getLsbD j.toNat
theorem xbl_and (x y c : Int) : xbl (xandL x y) c = (xbl x c && xbl y c) := by unfold xbl; rw [xandL_eq, BitVec.ofInt_toInt, BitVec.getLsbD_and]
theorem xbl_or (x y c : Int) : xbl (xorL x y) c = (xbl x c || xbl y c) := by unfold xbl; rw [xorL_eq, BitVec.ofInt_toInt, BitVec.getLsbD_or]
theorem xbl_xor (x y c : Int) : xbl (xxorL x y) c = (xbl x c ^^ xbl y c) := by unfold xbl; rw [xxorL_eq, BitVec.ofInt_toInt, BitVec.getLsbD_xor]
theorem xbl_0 (c : Int) : xbl 0 c = false := by unfold xbl; rw [show BitVec.ofInt 64 0 = 0#64 from rfl, BitVec.getLsbD_zero]
theorem xbl_m1k : ∀ d, d < 64 → (BitVec.ofInt 64 (-1)).getLsbD d = true := by decide +kernel
theorem xbl_m1 {d : Int} (h0 : 0 ≤ d) (h : d < 64) : xbl (-1) d = true := by unfold xbl; exact xbl_m1k _ (by omega)
theorem xbl_not (x : Int) {d : Int} (h0 : 0 ≤ d) (h : d < 64) : xbl (xxorL x (-1)) d = !xbl x d := by rw [xbl_xor, xbl_m1 h0 h]; cases xbl x d <;> rfl
theorem xbl_1k : ∀ d, d < 64 → (BitVec.ofInt 64 1).getLsbD d = decide (d = 0) := by decide +kernel
theorem xbl_shl (w : Int) {k j : Int} (h0 : 0 ≤ k) (h : k < 64) (h1 : 0 ≤ j) (h2 : j < 64) : xbl (xshlL w k) j = (decide (k ≤ j) && xbl w (j - k)) := by
  have e : BitVec.ofInt 64 (xshlL w k) = BitVec.ofInt 64 w <<< k.toNat := by
    apply BitVec.eq_of_toNat_eq
    rw [BitVec.toNat_shiftLeft, BitVec.toNat_ofInt, BitVec.toNat_ofInt, xshlL_eq, xw64_eq, Int.emod_eq_of_lt h0 h, Nat.shiftLeft_eq]
    have hp : (2 : Int) ^ k.toNat = ((2 ^ k.toNat : Nat) : Int) := by rw [Int.natCast_pow]; rfl
    have a1 := xmodmulL w (2 ^ k.toNat)
    have hc : ((((w % ((2 ^ 64 : Nat) : Int)).toNat * 2 ^ k.toNat % 2 ^ 64 : Nat)) : Int) = (w * 2 ^ k.toNat) % 18446744073709551616 := by
      rw [Int.natCast_emod, Int.natCast_mul, Int.toNat_of_nonneg (Int.emod_nonneg _ (by decide)), ← hp]
      exact a1
    show ((((w * 2 ^ k.toNat) + 9223372036854775808) % 18446744073709551616 - 9223372036854775808) % 18446744073709551616).toNat = _
    omega
  unfold xbl
  rw [e, BitVec.getLsbD_shiftLeft]
  by_cases hk : k ≤ j
  · have e1 : (j - k).toNat = j.toNat - k.toNat := by omega
    rw [e1]
    simp [hk, show j.toNat < 64 by omega]
    intro; omega
  · simp [hk]
    omega
theorem xbl_ushr (w : Int) {k j : Int} (h0 : 0 ≤ k) (h : k < 64) (h1 : 0 ≤ j) : xbl (xushrL w k) j = xbl w (j + k) := by
  have e : BitVec.ofInt 64 (xushrL w k) = BitVec.ofInt 64 w >>> k.toNat := by
    apply BitVec.eq_of_toNat_eq
    rw [BitVec.toNat_ushiftRight, BitVec.toNat_ofInt, BitVec.toNat_ofInt, xushrL_eq, xw64_eq, Int.emod_eq_of_lt h0 h, Nat.shiftRight_eq_div_pow]
    have hp : (2 : Int) ^ k.toNat = ((2 ^ k.toNat : Nat) : Int) := by rw [Int.natCast_pow]; rfl
    have hc : ((((w % ((2 ^ 64 : Nat) : Int)).toNat / 2 ^ k.toNat : Nat)) : Int) = (w % 18446744073709551616) / 2 ^ k.toNat := by
      rw [Int.natCast_ediv, Int.toNat_of_nonneg (Int.emod_nonneg _ (by decide)), ← hp]
      rfl
    have hb : 0 ≤ (w % 18446744073709551616) / 2 ^ k.toNat ∧ (w % 18446744073709551616) / 2 ^ k.toNat ≤ w % 18446744073709551616 := ⟨Int.ediv_nonneg (Int.emod_nonneg _ (by decide)) (Int.le_of_lt (Int.pow_pos (by decide))), Int.ediv_le_self _ (Int.emod_nonneg _ (by decide))⟩
    show ((((w % 18446744073709551616) / 2 ^ k.toNat + 9223372036854775808) % 18446744073709551616 - 9223372036854775808) % 18446744073709551616).toNat = _
    omega
  unfold xbl
  rw [e, BitVec.getLsbD_ushiftRight]
  congr 1
  omega
theorem xbl_shl1 {k j : Int} (h0 : 0 ≤ k) (h : k < 64) (h1 : 0 ≤ j) (h2 : j < 64) : xbl (xshlL 1 k) j = decide (j = k) := by
  rw [xbl_shl 1 h0 h h1 h2]
  unfold xbl
  by_cases hk : k ≤ j
  · rw [xbl_1k _ (by omega)]
    simp [hk]
    omega
  · simp [hk]
    omega
theorem xbl_hi (w : Int) {j : Int} (h : 64 ≤ j) : xbl w j = false := BitVec.getLsbD_of_ge _ _ (by omega)
theorem xbl_ext {x y : Int} (hx : x64 x) (hy : x64 y) (h : ∀ c : Int, 0 ≤ c → c < 64 → xbl x c = xbl y c) : x = y := by
  have e : BitVec.ofInt 64 x = BitVec.ofInt 64 y := BitVec.eq_of_getLsbD_eq (fun i hi => by
    have := h (i : Int) (by omega) (by omega)
    unfold xbl at this
    rwa [Int.toNat_natCast] at this)
  have e2 : Int64.ofInt x = Int64.ofInt y := congrArg Int64.ofBitVec e
  rw [← Int64.toInt_ofInt_of_le hx.1 hx.2, ← Int64.toInt_ofInt_of_le hy.1 hy.2, e2]
theorem xandL_0 {x y : Int} : xandL x y = 0 ↔ ∀ d : Int, 0 ≤ d → d < 64 → ¬ (xbl x d = true ∧ xbl y d = true) := by
  constructor
  · intro e d h0 h1 ⟨a, b⟩
    have := xbl_and x y d
    rw [e, xbl_0, a, b] at this
    cases this
  · intro h
    refine xbl_ext (xandL_in _ _) (by constructor <;> decide) (fun c h0 h1 => ?_)
    rw [xbl_and, xbl_0]
    have := h c h0 h1
    cases hx : xbl x c <;> cases hy : xbl y c <;> first | rfl | exact absurd ⟨hx, hy⟩ this
theorem xandL_1 (x : Int) : xandL x 1 = if xbl x 0 then 1 else 0 := by
  refine xbl_ext (xandL_in _ _) (by split <;> (constructor <;> decide)) (fun c h0 h1 => ?_)
  rw [xbl_and]
  have e1 : xbl 1 c = decide (c = 0) := by unfold xbl; rw [xbl_1k _ (by omega)]; apply decide_eq_decide.mpr; omega
  rw [e1]
  by_cases hc : c = 0
  · subst hc
    cases hx : xbl x 0
    · simp [xbl_0]
    · simp [e1]
  · cases hx : xbl x 0
    · simp [hc, xbl_0]
    · simp [hc, e1]
theorem xbl_t (x : Int) {c : Int} (h0 : 0 ≤ c) (h : c < 64) : xandL (xushrL x c) 1 = if xbl x c then 1 else 0 := by
  rw [xandL_1, xbl_ushr x h0 h (by decide), Int.zero_add]
theorem xbl_lackk : ∀ i : Nat, i < 6 → ∀ j : Nat, j < 64 → (BitVec.ofInt 64 (xlack (i : Int))).getLsbD j = !(BitVec.ofInt 32 (j : Int)).getLsbD i := by decide +kernel
theorem xbl_lack {i j : Int} (h0 : 0 ≤ i) (h : i < 6) (h1 : 0 ≤ j) (h2 : j < 64) : xbl (xlack i) j = !xbt j i := by
  obtain ⟨k, rfl⟩ := Int.eq_ofNat_of_zero_le h0
  obtain ⟨l, rfl⟩ := Int.eq_ofNat_of_zero_le h1
  unfold xbl xbt
  rw [Int.toNat_natCast, Int.toNat_natCast]
  exact xbl_lackk k (by omega) l (by omega)
end
