/-! ===== SOUNDNESS, 2: shifts, division, conversions ===== -/
noncomputable section
theorem xn_sm : ∀ n, n < 32 → ((nI n).toBitVec.smod 32).toNat = n := by decide +kernel
theorem xn_um : ∀ n, n < 32 → ((nI n).toUInt32.toBitVec % 32).toNat = n := by decide +kernel
theorem xi_tn (x : Int) : (Int32.ofInt x).toBitVec.toNat = (x % 4294967296).toNat := by
  show (BitVec.ofInt 32 x).toNat = _
  rw [BitVec.toNat_ofInt]; rfl
theorem xl_tn (x : Int) : (Int64.ofInt x).toBitVec.toNat = (x % 18446744073709551616).toNat := by
  show (BitVec.ofInt 64 x).toNat = _
  rw [BitVec.toNat_ofInt]; rfl
theorem xi_31 (y : Int) : Int32.ofInt y &&& 31 = nI (y % 32).toNat := by
  rw [pk_and (Int32.ofInt y) 5 (by decide), xi_tn]
  congr 1
  omega
theorem x_k (y : Int) : (y % 32).toNat < 32 := by omega
theorem x_k6 (y : Int) : (y % 64).toNat < 64 := by omega
theorem xmodmul (x p : Int) : (x % 4294967296 * p) % 4294967296 = (x * p) % 4294967296 := by
  rw [Int.mul_emod (x % 4294967296) p, Int.emod_emod_of_dvd _ (Int.dvd_refl _), ← Int.mul_emod]
theorem xmodmulL (x p : Int) : (x % 18446744073709551616 * p) % 18446744073709551616 = (x * p) % 18446744073709551616 := by
  rw [Int.mul_emod (x % 18446744073709551616) p, Int.emod_emod_of_dvd _ (Int.dvd_refl _), ← Int.mul_emod]
theorem xi_shl (x y : Int) : Int32.ofInt x <<< (Int32.ofInt y &&& 31) = Int32.ofInt (xshl x y) := by
  rw [xshl_eq, xi_of, xi_31]
  apply Int32.toBitVec_inj.mp
  apply BitVec.eq_of_toNat_eq
  rw [pk_shl _ _ _ (xn_sm _ (x_k y)), xi_tn, xi_tn]
  have h0 : (0 : Int) ≤ x % 4294967296 := by omega
  generalize (y % 32).toNat = k
  rw [← xmodmul x (2 ^ k)]
  obtain ⟨n, hn⟩ := Int.eq_ofNat_of_zero_le h0
  rw [hn]
  have e : ((n : Int) * 2 ^ k) = ((n * 2 ^ k : Nat) : Int) := by push_cast; rfl
  rw [e]
  show _ = (((n * 2 ^ k : Nat) : Int) % ((4294967296 : Nat) : Int)).toNat
  rw [← Int.natCast_emod, Int.toNat_natCast, Int.toNat_natCast]
theorem xshl_in (x y : Int) : x32 (xshl x y) := by rw [xshl_eq]; exact xi_in _
theorem xpow_pos (k : Nat) : (0 : Int) < 2 ^ k := Int.pow_pos (by decide)
theorem xdiv_in {x : Int} {p : Int} (hp : 0 < p) (h : x32 x) : x32 (x / p) := by
  constructor
  · apply Int.le_ediv_of_mul_le hp
    have := h.1
    have h2 : (-2147483648 : Int) * p ≤ -2147483648 * 1 := by
      apply Int.mul_le_mul_of_nonpos_left <;> omega
    omega
  · apply Int.ediv_lt_of_lt_mul hp
    have := h.2
    have h2 : (2147483648 : Int) * 1 ≤ 2147483648 * p := by
      apply Int.mul_le_mul_of_nonneg_left <;> omega
    omega
theorem xshr_in {x : Int} (y : Int) (h : x32 x) : x32 (xshr x y) := by rw [xshr_eq]; exact xdiv_in (xpow_pos _) h
theorem xi_shr {x : Int} (y : Int) (hx : x32 x) : Int32.ofInt x >>> (Int32.ofInt y &&& 31) = Int32.ofInt (xshr x y) := by
  have hin := xshr_in y hx
  apply Int32.toInt_inj.mp
  rw [xi_to hin, xshr_eq, xi_31, pk_shr _ _ _ (xn_sm _ (x_k y)), xi_to hx, Int.shiftRight_eq_div_pow]
  push_cast; rfl
theorem xi_31u (y : Int) : (Int32.ofInt y).toUInt32 &&& Int32.toUInt32 31 = (nI (y % 32).toNat).toUInt32 := by
  rw [← xi_31]; rfl
theorem xushr_in (x y : Int) : x32 (xushr x y) := by rw [xushr_eq]; exact xi_in _
theorem xi_ushr (x y : Int) : ((Int32.ofInt x).toUInt32 >>> ((Int32.ofInt y).toUInt32 &&& Int32.toUInt32 31)).toInt32 = Int32.ofInt (xushr x y) := by
  rw [xushr_eq, xi_of]
  apply Int32.toBitVec_inj.mp
  apply BitVec.eq_of_toNat_eq
  have hs : (((Int32.ofInt y).toUInt32 &&& Int32.toUInt32 31).toBitVec % 32).toNat = (y % 32).toNat := by
    rw [xi_31u]; exact xn_um _ (x_k y)
  rw [pk_ushr _ _ _ hs, xi_tn, xi_tn]
  have h0 : (0 : Int) ≤ x % 4294967296 := by omega
  have h1 : x % 4294967296 < 4294967296 := by omega
  generalize (y % 32).toNat = k
  obtain ⟨n, hn⟩ := Int.eq_ofNat_of_zero_le h0
  rw [hn] at h1 ⊢
  have e : ((n : Int) / 2 ^ k) = ((n / 2 ^ k : Nat) : Int) := by push_cast; rfl
  rw [e]
  have h2 : n / 2 ^ k ≤ n := Nat.div_le_self _ _
  generalize hq : n / 2 ^ k = q at h2 ⊢
  rw [Int.emod_eq_of_lt (by omega) (by omega), Int.toNat_natCast, Int.toNat_natCast]
  exact hq
theorem xi_div {x y : Int} (hx : x32 x) (hy : x32 y) : Int32.ofInt x / Int32.ofInt y = Int32.ofInt (xdiv x y) := by
  rw [xdiv_eq, xi_of]
  apply Int32.toInt_inj.mp
  rw [Int32.toInt_div, xi_to hx, xi_to hy, Int32.toInt_ofInt]
theorem xdiv_in2 (x y : Int) : x32 (xdiv x y) := by rw [xdiv_eq]; exact xi_in _
theorem xl_div {x y : Int} (hx : x64 x) (hy : x64 y) : Int64.ofInt x / Int64.ofInt y = Int64.ofInt (xdivL x y) := by
  rw [xdivL_eq, xl_of]
  apply Int64.toInt_inj.mp
  rw [Int64.toInt_div, xl_to hx, xl_to hy, Int64.toInt_ofInt]
theorem xdivL_in (x y : Int) : x64 (xdivL x y) := by rw [xdivL_eq]; exact xl_in _
theorem xemod_le {x y : Int} (h : 0 ≤ x) (hy : 0 ≤ y) : x % y ≤ x := by
  obtain ⟨a, rfl⟩ := Int.eq_ofNat_of_zero_le h
  obtain ⟨b, rfl⟩ := Int.eq_ofNat_of_zero_le hy
  rw [← Int.natCast_emod]
  exact Int.ofNat_le.mpr (Nat.mod_le a b)
theorem xrem_abs (x y : Int) (h : 0 ≤ x) : 0 ≤ x.tmod y ∧ x.tmod y ≤ x := by
  refine ⟨Int.tmod_nonneg y h, ?_⟩
  rcases Int.le_total 0 y with hy | hy
  · rw [Int.tmod_eq_emod_of_nonneg h]
    exact xemod_le h hy
  · rw [← Int.tmod_neg, Int.tmod_eq_emod_of_nonneg h]
    exact xemod_le h (by omega)
theorem xrem_in {x : Int} (y : Int) (hx : x32 x) : x32 (xrem x y) := by
  rw [xrem_eq]
  by_cases h : 0 ≤ x
  · have := xrem_abs x y h
    constructor <;> omega
  · have := xrem_abs (-x) y (by omega)
    rw [Int.neg_tmod] at this
    constructor <;> omega
theorem xi_rem {x y : Int} (hx : x32 x) (hy : x32 y) : Int32.ofInt x - Int32.ofInt x / Int32.ofInt y * Int32.ofInt y = Int32.ofInt (xrem x y) := by
  rw [xi_div hx hy, xdiv_eq, xi_of, ← Int32.ofInt_mul, ← Int32.ofInt_sub, xrem_eq, Int.tmod_def, Int.mul_comm]
theorem xl_rem {x y : Int} (hx : x64 x) (hy : x64 y) : Int64.ofInt x - Int64.ofInt x / Int64.ofInt y * Int64.ofInt y = Int64.ofInt (xrem x y) := by
  rw [xl_div hx hy, xdivL_eq, xl_of, ← Int64.ofInt_mul, ← Int64.ofInt_sub, xrem_eq, Int.tmod_def, Int.mul_comm]
theorem xremL_in {x : Int} (y : Int) (hx : x64 x) : x64 (xrem x y) := by
  rw [xrem_eq]
  by_cases h : 0 ≤ x
  · have := xrem_abs x y h
    constructor <;> omega
  · have := xrem_abs (-x) y (by omega)
    rw [Int.neg_tmod] at this
    constructor <;> omega
theorem xcmp_in (x y : Int) : x32 (xcmpL x y) := by
  rw [xcmpL_eq]
  split
  · constructor <;> decide
  · split <;> constructor <;> decide
theorem xl_cmp {x y : Int} (hx : x64 x) (hy : x64 y) : lg_cmp (Int64.ofInt x) (Int64.ofInt y) = Int32.ofInt (xcmpL x y) := by
  rw [xcmpL_eq]
  unfold lg_cmp
  by_cases h1 : x < y
  · rw [if_pos h1, if_neg, if_neg]
    · rfl
    · rw [xl_eq hx hy]; omega
    · show ¬ Int64.ofInt y < Int64.ofInt x
      rw [xl_lt hy hx]; omega
  · rw [if_neg h1]
    by_cases h2 : x = y
    · rw [if_pos h2, if_neg, if_pos]
      · rfl
      · rw [xl_eq hx hy]; exact h2
      · show ¬ Int64.ofInt y < Int64.ofInt x
        rw [xl_lt hy hx]; omega
    · rw [if_neg h2, if_pos]
      · rfl
      · show Int64.ofInt y < Int64.ofInt x
        rw [xl_lt hy hx]; omega
theorem xc_i2l {x : Int} (hx : x32 x) : (Int32.ofInt x).toInt64 = Int64.ofInt x := by
  apply Int64.toInt_inj.mp
  rw [Int32.toInt_toInt64, xi_to hx, xl_to ⟨by omega, by omega⟩]
theorem xc_l2i (x : Int) : (Int64.ofInt x).toInt32 = Int32.ofInt (xw32 x) := by rw [xi_of, Int64.toInt32_ofInt]
theorem xw8_in (x : Int) : x32 (xw8 x) := by rw [xw8_eq]; constructor <;> omega
theorem xw16_in (x : Int) : x32 (xw16 x) := by rw [xw16_eq]; constructor <;> omega
theorem xc_i2b (x : Int) : (Int32.ofInt x).toInt8.toInt32 = Int32.ofInt (xw8 x) := by
  apply Int32.toInt_inj.mp
  rw [xi_to (xw8_in x), Int8.toInt_toInt32, Int32.toInt8_ofInt, Int8.toInt_ofInt, xw8_eq]
  simp only [Int.bmod, Int8.size]
  omega
theorem xc_i2s (x : Int) : (Int32.ofInt x).toInt16.toInt32 = Int32.ofInt (xw16 x) := by
  apply Int32.toInt_inj.mp
  rw [xi_to (xw16_in x), Int16.toInt_toInt32, Int32.toInt16_ofInt, Int16.toInt_ofInt, xw16_eq]
  simp only [Int.bmod, Int16.size]
  omega
theorem xn_sm6 : ∀ n, n < 64 → ((BitVec.ofNat 64 n).smod 64).toNat = n := by decide +kernel
theorem xn_63 (y : Int) (hy : x32 y) : ((Int32.ofInt y).toInt64 &&& 63).toBitVec = BitVec.ofNat 64 (y % 64).toNat := by
  rw [xc_i2l hy]
  apply BitVec.eq_of_toNat_eq
  show (BitVec.ofInt 64 y &&& 63#64).toNat = _
  rw [BitVec.toNat_and, BitVec.toNat_ofInt]
  show (y % 18446744073709551616).toNat &&& 63 = _
  have e : (63 : Nat) = 2 ^ 6 - 1 := rfl
  rw [e, Nat.and_two_pow_sub_one_eq_mod]
  simp only [BitVec.toNat_ofNat]
  omega
theorem xshlL_in (x y : Int) : x64 (xshlL x y) := by rw [xshlL_eq]; exact xl_in _
theorem xushrL_in (x y : Int) : x64 (xushrL x y) := by rw [xushrL_eq]; exact xl_in _
theorem xl_shl (x : Int) {y : Int} (hy : x32 y) : Int64.ofInt x <<< ((Int32.ofInt y).toInt64 &&& 63) = Int64.ofInt (xshlL x y) := by
  rw [xshlL_eq, xl_of]
  apply Int64.toBitVec_inj.mp
  apply BitVec.eq_of_toNat_eq
  show ((Int64.ofInt x).toBitVec <<< (((Int32.ofInt y).toInt64 &&& 63).toBitVec.smod 64)).toNat = _
  rw [xn_63 y hy, xl_tn]
  have hk := x_k6 y
  generalize (y % 64).toNat = k at hk ⊢
  show ((Int64.ofInt x).toBitVec <<< ((BitVec.ofNat 64 k).smod 64).toNat).toNat = _
  rw [xn_sm6 k hk, BitVec.toNat_shiftLeft, xl_tn, Nat.shiftLeft_eq]
  have h0 : (0 : Int) ≤ x % 18446744073709551616 := by omega
  rw [← xmodmulL x (2 ^ k)]
  obtain ⟨n, hn⟩ := Int.eq_ofNat_of_zero_le h0
  rw [hn]
  have e : ((n : Int) * 2 ^ k) = ((n * 2 ^ k : Nat) : Int) := by push_cast; rfl
  rw [e]
  show _ = (((n * 2 ^ k : Nat) : Int) % ((18446744073709551616 : Nat) : Int)).toNat
  rw [← Int.natCast_emod, Int.toNat_natCast, Int.toNat_natCast]
theorem xl_ushr (x : Int) {y : Int} (hy : x32 y) : ((Int64.ofInt x).toUInt64 >>> ((Int32.ofInt y).toInt64.toUInt64 &&& Int64.toUInt64 63)).toInt64 = Int64.ofInt (xushrL x y) := by
  rw [xushrL_eq, xl_of]
  apply Int64.toBitVec_inj.mp
  apply BitVec.eq_of_toNat_eq
  have hs : ((Int32.ofInt y).toInt64.toUInt64 &&& Int64.toUInt64 63).toBitVec = BitVec.ofNat 64 (y % 64).toNat := xn_63 y hy
  show ((Int64.ofInt x).toBitVec >>> (((Int32.ofInt y).toInt64.toUInt64 &&& Int64.toUInt64 63).toBitVec % 64)).toNat = _
  rw [hs, xl_tn]
  have hk := x_k6 y
  generalize (y % 64).toNat = k at hk ⊢
  show ((Int64.ofInt x).toBitVec >>> ((BitVec.ofNat 64 k) % 64).toNat).toNat = _
  have hk2 : ((BitVec.ofNat 64 k) % 64).toNat = k := by
    rw [BitVec.toNat_umod]
    show k % 18446744073709551616 % 64 = k
    omega
  rw [hk2, BitVec.toNat_ushiftRight, xl_tn, Nat.shiftRight_eq_div_pow]
  have h0 : (0 : Int) ≤ x % 18446744073709551616 := by omega
  have h1 : x % 18446744073709551616 < 18446744073709551616 := by omega
  obtain ⟨n, hn⟩ := Int.eq_ofNat_of_zero_le h0
  rw [hn] at h1 ⊢
  have e : ((n : Int) / 2 ^ k) = ((n / 2 ^ k : Nat) : Int) := by push_cast; rfl
  rw [e]
  have h2 : n / 2 ^ k ≤ n := Nat.div_le_self _ _
  generalize hq : n / 2 ^ k = q at h2 ⊢
  rw [Int.emod_eq_of_lt (by omega) (by omega), Int.toNat_natCast, Int.toNat_natCast]
  exact hq
end
