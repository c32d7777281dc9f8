/-! ===== SOUNDNESS, 1: values and frames of the machine, and what they stand for ===== -/
noncomputable section
/-- kind of each cell -/
def xkn : List Nat := [999, 0, 7, 10, 20, 6, 21, 21, 21, 21, 21, 22, 21, 21, 21, 23, 6, 21, 21, 21, 21, 21, 22, 21, 21, 21, 23, 6, 21, 21, 21, 21, 21, 22, 21, 21, 21, 23, 5, 4, 22, 21, 21, 21, 24, 62, 63, 8, 25, 8, 25, 8, 25, 8, 25, 8, 25, 8, 25, 8, 25, 8, 25, 8, 25, 8, 25, 8, 25, 8, 25, 8, 25, 8, 25, 8, 25, 8, 25, 8, 25, 8, 25, 8, 25, 8, 25, 8, 25, 8, 25, 8, 25, 8, 25, 8, 25, 8, 25, 8, 25, 8, 25, 8, 25, 8, 25, 8, 25, 8, 25, 8, 25, 8, 25, 8, 25, 8, 25, 8, 25, 8, 25, 8, 25, 8, 25, 8, 25, 8, 25, 8, 25, 8, 25, 8, 25, 8, 25, 8, 25, 8, 25, 8, 25, 8, 25, 5, 4, 22, 21, 21, 21, 24, 62, 63, 8, 25, 8, 25, 8, 25, 8, 25, 8, 25, 8, 25, 8, 25, 8, 25, 8, 25, 8, 25, 8, 25, 8, 25, 8, 25, 8, 25, 8, 25, 8, 25, 8, 25, 8, 25, 8, 25, 8, 25, 8, 25, 8, 25, 8, 25, 8, 25, 8, 25, 8, 25, 8, 25, 8, 25, 8, 25, 8, 25, 8, 25, 8, 25, 8, 25, 8, 25, 8, 25, 8, 25, 8, 25, 8, 25, 8, 25, 8, 25, 8, 25, 8, 25, 8, 25, 8, 25, 8, 25, 8, 25, 8, 25, 8, 25, 8, 25, 8, 25, 2, 23, 23, 2, 23, 23, 1, 26, 21, 3, 60, 27, 61, 6, 21, 21, 21, 21, 21, 22, 21, 21, 21, 23, 6, 21, 21, 21, 21, 21, 22, 21, 21, 21, 23, 6, 21, 21, 21, 21, 21, 22, 21, 21, 21, 23, 9, 28, 9, 28, 9, 28, 9, 28, 11, 29, 29, 30, 28, 20, 31, 32, 33, 34, 35, 34, 27, 23, 36, 23, 23, 37, 38, 26]
abbrev x32 (x : Int) : Prop := -2147483648 ≤ x ∧ x < 2147483648
abbrev x64 (x : Int) : Prop := -9223372036854775808 ≤ x ∧ x < 9223372036854775808
/-- a reference of kind k to cell a is one of the layout's -/
def xval (k : Nat) (a : Int) : Prop := if k = 50 then a = -1 else if k = 51 then a = 0 else if k = 52 then 0 ≤ a ∧ a < 22 else 1 ≤ a ∧ a ≤ 329 ∧ xkn.getD a.toNat 999 = k
def xokv (v : xV) : Prop := match v with
  | (0, x) => x32 x
  | (1, x) => x64 x
  | (k + 2, a) => xval k a
/-- where things lie: the cells, the String constants, the static array, the script -/
abbrev xAd : Type := (Int → Nat) × (Nat → Nat) × Nat × Nat
def xadr (d : xAd) (k : Nat) (a : Int) : Nat := if k = 50 then d.2.2.1 else if k = 51 then d.2.2.2 else if k = 52 then d.2.1 a.toNat else d.1 a
def xcw (d : xAd) (v : xV) : Value := match v with
  | (0, x) => .int (Int32.ofInt x)
  | (1, x) => .long (Int64.ofInt x)
  | (k + 2, a) => .ref (xadr d k a)
theorem xcw_i (d : xAd) (x : Int) : xcw d (0, x) = .int (Int32.ofInt x) := rfl
theorem xcw_l (d : xAd) (x : Int) : xcw d (1, x) = .long (Int64.ofInt x) := rfl
theorem xcw_r (d : xAd) (k : Nat) (a : Int) : xcw d (k + 2, a) = .ref (xadr d k a) := rfl
theorem xcw_cat (d : xAd) (v : xV) : (xcw d v).category = if v.1 = 1 then 2 else 1 := by
  obtain ⟨t, x⟩ := v
  match t with
  | 0 => rfl
  | 1 => rfl
  | t + 2 => simp [xcw, Value.category]
/-- the machine's locals as an array of slots -/
def xfr (d : xAd) (nL : Nat) (l : xL) (ls : Array Slot) : Prop := l.length = nL ∧ ls.size = nL ∧ lv_wf ls ∧ ∀ (i : Nat) (v : xV), xget l i = some v → ls[i]? = some (.val (xcw d v)) ∧ xokv v
def xpr (d : xAd) (l : xL) (nL : Nat) : List (Nat × Value) := (List.range nL).filterMap (fun i => (xget l i).map (fun v => (i, xcw d v)))
theorem xget_lt : ∀ {l : xL} {i : Nat} {v : xV}, xget l i = some v → i < l.length
  | [], _, _, h => by cases h
  | _ :: _, 0, _, _ => Nat.succ_pos _
  | _ :: l, i + 1, v, h => Nat.succ_lt_succ (xget_lt (l := l) h)
theorem xpr_mem {d : xAd} {l : xL} {nL : Nat} (hl : l.length = nL) {i : Nat} {v : xV} (h : xget l i = some v) : (i, xcw d v) ∈ xpr d l nL := by
  refine List.mem_filterMap.mpr ⟨i, List.mem_range.mpr (by rw [← hl]; exact xget_lt h), ?_⟩
  rw [h]; rfl
theorem xfr_has {d : xAd} {nL : Nat} {l : xL} {ls : Array Slot} (h : xfr d nL l ls) : lv_has ls nL (xpr d l nL) := by
  refine ⟨h.2.1, h.2.2.1, fun q hq => ?_⟩
  obtain ⟨i, -, hi⟩ := List.mem_filterMap.mp hq
  cases hg : xget l i with
  | none => rw [hg] at hi; cases hi
  | some v =>
    rw [hg] at hi
    cases hi
    exact (h.2.2.2 i v hg).1
theorem xclr_len (l : xL) (i : Nat) : (xclr l i).length = l.length := by
  rcases xclr_or l i with h | ⟨j, x, rfl, hx⟩
  · rw [h]
  · rw [xclr_long hx, xset_len]
theorem xclr_get {l : xL} {i j : Nat} {w : xV} (h : xget (xclr l i) j = some w) : xget l j = some w ∧ ¬ (j + 1 = i ∧ w.1 = 1) := by
  rcases xclr_or l i with he | ⟨k, x, rfl, hx⟩
  · rw [he] at h
    refine ⟨h, fun q => ?_⟩
    obtain ⟨rfl, h1⟩ := q
    obtain ⟨t, z⟩ := w
    dsimp only at h1
    subst h1
    have e := he
    rw [xclr_long h] at e
    have e2 := xget_set l j j none
    rw [e, h, if_pos rfl] at e2
    split at e2 <;> cases e2
  · rw [xclr_long hx, xget_set] at h
    split at h
    · split at h <;> cases h
    · next hne => exact ⟨h, fun q => hne (Nat.succ.inj q.1)⟩
/-- behind a store of a value of one slot -/
theorem xst1 {d : xAd} {nL : Nat} {l : xL} {ls ls' : Array Slot} {i : Nat} {v : xV} (h : xfr d nL l ls) (hv : v.1 ≠ 1) (hok : xokv v)
    (h' : lv_has ls' nL ((i, xcw d v) :: (xpr d l nL).filter (fun q => !(q.1 == i) && !(q.1 + 1 == i && q.2.category == 2)))) : xfr d nL (xsto l i v) ls' := by
  have e : xsto l i v = xset (xclr l i) i (some v) := by
    obtain ⟨t, x⟩ := v
    match t, hv with
    | 0, _ => rfl
    | 1, hv => exact absurd rfl hv
    | t + 2, _ => rfl
  rw [e]
  refine ⟨by rw [xset_len, xclr_len]; exact h.1, h'.1, h'.2.1, fun j w hj => ?_⟩
  rw [xget_set] at hj
  split at hj
  · next hji =>
    split at hj
    · cases hj
      subst hji
      exact ⟨h'.2.2 _ List.mem_cons_self, hok⟩
    · cases hj
  · next hji =>
    obtain ⟨hg, hn⟩ := xclr_get hj
    refine ⟨h'.2.2 (j, xcw d w) (List.mem_cons_of_mem _ (List.mem_filter.mpr ⟨xpr_mem h.1 hg, ?_⟩)), (h.2.2.2 j w hg).2⟩
    simp only [Bool.and_eq_true, Bool.not_eq_true', beq_eq_false_iff_ne, ne_eq, Bool.and_eq_false_iff]
    refine ⟨hji, ?_⟩
    by_cases h1 : j + 1 = i
    · refine Or.inr ?_
      rw [xcw_cat]
      split
      · next h2 => exact absurd ⟨h1, h2⟩ hn
      · decide
    · exact Or.inl h1
/-- behind a store of a long -/
theorem xst2 {d : xAd} {nL : Nat} {l : xL} {ls ls' : Array Slot} {i : Nat} {x : Int} (h : xfr d nL l ls) (hok : x64 x)
    (h' : lv_has ls' nL ((i, Value.long (Int64.ofInt x)) :: (xpr d l nL).filter (fun q => !(q.1 == i) && (!(q.1 == i + 1) && !(q.1 + 1 == i && q.2.category == 2))))) : xfr d nL (xsto l i (1, x)) ls' := by
  show xfr d nL (xset (xset (xclr l i) i (some (1, x))) (i + 1) none) ls'
  refine ⟨by rw [xset_len, xset_len, xclr_len]; exact h.1, h'.1, h'.2.1, fun j w hj => ?_⟩
  rw [xget_set] at hj
  split at hj
  · split at hj <;> cases hj
  · next hj1 =>
    rw [xget_set] at hj
    split at hj
    · next hji =>
      split at hj
      · cases hj
        subst hji
        exact ⟨h'.2.2 _ List.mem_cons_self, hok⟩
      · cases hj
    · next hji =>
      obtain ⟨hg, hn⟩ := xclr_get hj
      refine ⟨h'.2.2 (j, xcw d w) (List.mem_cons_of_mem _ (List.mem_filter.mpr ⟨xpr_mem h.1 hg, ?_⟩)), (h.2.2.2 j w hg).2⟩
      simp only [Bool.and_eq_true, Bool.not_eq_true', beq_eq_false_iff_ne, ne_eq, Bool.and_eq_false_iff]
      refine ⟨hji, hj1, ?_⟩
      by_cases h1 : j + 1 = i
      · refine Or.inr ?_
        rw [xcw_cat]
        split
        · next h2 => exact absurd ⟨h1, h2⟩ hn
        · decide
      · exact Or.inl h1
/-! numbers: what Int32 and Int64 do, in whole numbers -/
theorem xi_in (x : Int) : x32 (xw32 x) := by rw [xw32_eq]; constructor <;> omega
theorem xl_in (x : Int) : x64 (xw64 x) := by rw [xw64_eq]; constructor <;> omega
theorem xi_of (x : Int) : Int32.ofInt (xw32 x) = Int32.ofInt x := by
  rw [xw32_eq]
  apply Int32.toBitVec_inj.mp
  show BitVec.ofInt 32 _ = BitVec.ofInt 32 _
  apply BitVec.eq_of_toInt_eq
  rw [BitVec.toInt_ofInt, BitVec.toInt_ofInt]
  simp only [Int.bmod]
  omega
theorem xl_of (x : Int) : Int64.ofInt (xw64 x) = Int64.ofInt x := by
  rw [xw64_eq]
  apply Int64.toBitVec_inj.mp
  show BitVec.ofInt 64 _ = BitVec.ofInt 64 _
  apply BitVec.eq_of_toInt_eq
  rw [BitVec.toInt_ofInt, BitVec.toInt_ofInt]
  simp only [Int.bmod]
  omega
theorem xi_to {x : Int} (h : x32 x) : (Int32.ofInt x).toInt = x := Int32.toInt_ofInt_of_le h.1 h.2
theorem xl_to {x : Int} (h : x64 x) : (Int64.ofInt x).toInt = x := Int64.toInt_ofInt_of_le h.1 h.2
theorem xi_lt {x y : Int} (hx : x32 x) (hy : x32 y) : Int32.ofInt x < Int32.ofInt y ↔ x < y := by rw [Int32.lt_iff_toInt_lt, xi_to hx, xi_to hy]
theorem xi_le {x y : Int} (hx : x32 x) (hy : x32 y) : Int32.ofInt x ≤ Int32.ofInt y ↔ x ≤ y := by rw [Int32.le_iff_toInt_le, xi_to hx, xi_to hy]
theorem xi_eq {x y : Int} (hx : x32 x) (hy : x32 y) : Int32.ofInt x = Int32.ofInt y ↔ x = y := by rw [← Int32.toInt_inj, xi_to hx, xi_to hy]
theorem xl_lt {x y : Int} (hx : x64 x) (hy : x64 y) : Int64.ofInt x < Int64.ofInt y ↔ x < y := by rw [Int64.lt_iff_toInt_lt, xl_to hx, xl_to hy]
theorem xl_eq {x y : Int} (hx : x64 x) (hy : x64 y) : Int64.ofInt x = Int64.ofInt y ↔ x = y := by rw [← Int64.toInt_inj, xl_to hx, xl_to hy]
theorem xi_z : Int32.ofInt 0 = 0 := rfl
theorem xi_add (x y : Int) : Int32.ofInt x + Int32.ofInt y = Int32.ofInt (xw32 (x + y)) := by rw [xi_of, Int32.ofInt_add]
theorem xi_sub (x y : Int) : Int32.ofInt x - Int32.ofInt y = Int32.ofInt (xw32 (x - y)) := by rw [xi_of, Int32.ofInt_sub]
theorem xi_mul (x y : Int) : Int32.ofInt x * Int32.ofInt y = Int32.ofInt (xw32 (x * y)) := by rw [xi_of, Int32.ofInt_mul]
theorem xl_add (x y : Int) : Int64.ofInt x + Int64.ofInt y = Int64.ofInt (xw64 (x + y)) := by rw [xl_of, Int64.ofInt_add]
theorem xl_sub (x y : Int) : Int64.ofInt x - Int64.ofInt y = Int64.ofInt (xw64 (x - y)) := by rw [xl_of, Int64.ofInt_sub]
theorem xl_mul (x y : Int) : Int64.ofInt x * Int64.ofInt y = Int64.ofInt (xw64 (x * y)) := by rw [xl_of, Int64.ofInt_mul]
theorem xbv32 (b : BitVec 32) : BitVec.ofInt 32 b.toInt = b := BitVec.ofInt_toInt
theorem xbv64 (b : BitVec 64) : BitVec.ofInt 64 b.toInt = b := BitVec.ofInt_toInt
theorem xbv32_in (b : BitVec 32) : x32 b.toInt := by
  have h1 := BitVec.le_toInt b
  have h2 := BitVec.toInt_lt (x := b)
  constructor <;> omega
theorem xbv64_in (b : BitVec 64) : x64 b.toInt := by
  have h1 := BitVec.le_toInt b
  have h2 := BitVec.toInt_lt (x := b)
  constructor <;> omega
theorem xi_and (x y : Int) : Int32.ofInt x &&& Int32.ofInt y = Int32.ofInt (xand x y) := by
  rw [xand_eq]
  apply Int32.toBitVec_inj.mp
  show _ = BitVec.ofInt 32 _
  rw [xbv32]; rfl
theorem xi_or (x y : Int) : Int32.ofInt x ||| Int32.ofInt y = Int32.ofInt (xor32 x y) := by
  rw [xor32_eq]
  apply Int32.toBitVec_inj.mp
  show _ = BitVec.ofInt 32 _
  rw [xbv32]; rfl
theorem xi_xor (x y : Int) : Int32.ofInt x ^^^ Int32.ofInt y = Int32.ofInt (xxor x y) := by
  rw [xxor_eq]
  apply Int32.toBitVec_inj.mp
  show _ = BitVec.ofInt 32 _
  rw [xbv32]; rfl
theorem xl_and (x y : Int) : Int64.ofInt x &&& Int64.ofInt y = Int64.ofInt (xandL x y) := by
  rw [xandL_eq]
  apply Int64.toBitVec_inj.mp
  show _ = BitVec.ofInt 64 _
  rw [xbv64]; rfl
theorem xl_or (x y : Int) : Int64.ofInt x ||| Int64.ofInt y = Int64.ofInt (xorL x y) := by
  rw [xorL_eq]
  apply Int64.toBitVec_inj.mp
  show _ = BitVec.ofInt 64 _
  rw [xbv64]; rfl
theorem xl_xor (x y : Int) : Int64.ofInt x ^^^ Int64.ofInt y = Int64.ofInt (xxorL x y) := by
  rw [xxorL_eq]
  apply Int64.toBitVec_inj.mp
  show _ = BitVec.ofInt 64 _
  rw [xbv64]; rfl
theorem xand_in (x y : Int) : x32 (xand x y) := by rw [xand_eq]; exact xbv32_in _
theorem xor_in (x y : Int) : x32 (xor32 x y) := by rw [xor32_eq]; exact xbv32_in _
theorem xxor_in (x y : Int) : x32 (xxor x y) := by rw [xxor_eq]; exact xbv32_in _
theorem xandL_in (x y : Int) : x64 (xandL x y) := by rw [xandL_eq]; exact xbv64_in _
theorem xorL_in (x y : Int) : x64 (xorL x y) := by rw [xorL_eq]; exact xbv64_in _
theorem xxorL_in (x y : Int) : x64 (xxorL x y) := by rw [xxorL_eq]; exact xbv64_in _
end
