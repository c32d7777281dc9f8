/-! sets of sets of cells, in eight words of 64 -/
noncomputable section
theorem fill_k21_L (a v : Int) : ∀ (n g i : Nat) (m : xM), n < g → i + n = 9 → xP (fJA_fill_k21_L5 g a v (i : Int) 9 m) (fun m' => xF a a m m' ∧ ∀ j : Int, m' a j = if (i : Int) ≤ j ∧ j < 9 then v else m a j)
  | _, 0, _, _, hg, _ => absurd hg (Nat.not_lt_zero _)
  | 0, g + 1, i, m, _, hi => by
    unfold fJA_fill_k21_L5
    rw [if_neg (by omega)]
    exact xP_some ⟨xF_rfl _ _ _, fun j => by rw [if_neg (by omega)]⟩
  | n + 1, g + 1, i, m, hg, hi => by
    unfold fJA_fill_k21_L5
    rw [if_pos (by omega), xA_p (by omega), xw32_id (x := (i : Int) + 1) (by omega) (by omega)]
    refine xP_mono (fill_k21_L a v n g (i + 1) _ (by omega) (by omega)) ?_
    rintro m' ⟨hF, hm⟩
    refine ⟨xF_tr (xwr_F (xF_rfl _ _ _) (by omega) (by omega)) hF, fun j => ?_⟩
    rw [hm j, xwr_at]
    (repeat' split) <;> first | rfl | omega
theorem fill_k21_s (a v : Int) (m : xM) : xP (fJA_fill_k21 a v m) (fun m' => xF a a m m' ∧ ∀ j : Int, m' a j = if 0 ≤ j ∧ j < 9 then v else m a j) := fill_k21_L a v 9 20001 0 m (by omega) rfl
theorem fill_k22_L (a v : Int) : ∀ (n g i : Nat) (m : xM), n < g → i + n = 18 → xP (fJA_fill_k22_L5 g a v (i : Int) 18 m) (fun m' => xF a a m m' ∧ ∀ j : Int, m' a j = if (i : Int) ≤ j ∧ j < 18 then v else m a j)
  | _, 0, _, _, hg, _ => absurd hg (Nat.not_lt_zero _)
  | 0, g + 1, i, m, _, hi => by
    unfold fJA_fill_k22_L5
    rw [if_neg (by omega)]
    exact xP_some ⟨xF_rfl _ _ _, fun j => by rw [if_neg (by omega)]⟩
  | n + 1, g + 1, i, m, hg, hi => by
    unfold fJA_fill_k22_L5
    rw [if_pos (by omega), xA_p (by omega), xw32_id (x := (i : Int) + 1) (by omega) (by omega)]
    refine xP_mono (fill_k22_L a v n g (i + 1) _ (by omega) (by omega)) ?_
    rintro m' ⟨hF, hm⟩
    refine ⟨xF_tr (xwr_F (xF_rfl _ _ _) (by omega) (by omega)) hF, fun j => ?_⟩
    rw [hm j, xwr_at]
    (repeat' split) <;> first | rfl | omega
theorem fill_k22_s (a v : Int) (m : xM) : xP (fJA_fill_k22 a v m) (fun m' => xF a a m m' ∧ ∀ j : Int, m' a j = if 0 ≤ j ∧ j < 18 then v else m a j) := fill_k22_L a v 18 20001 0 m (by omega) rfl
theorem fill_k23_L (a v : Int) : ∀ (n g i : Nat) (m : xM), n < g → i + n = 24 → xP (fJA_fill_k23_L5 g a v (i : Int) 24 m) (fun m' => xF a a m m' ∧ ∀ j : Int, m' a j = if (i : Int) ≤ j ∧ j < 24 then v else m a j)
  | _, 0, _, _, hg, _ => absurd hg (Nat.not_lt_zero _)
  | 0, g + 1, i, m, _, hi => by
    unfold fJA_fill_k23_L5
    rw [if_neg (by omega)]
    exact xP_some ⟨xF_rfl _ _ _, fun j => by rw [if_neg (by omega)]⟩
  | n + 1, g + 1, i, m, hg, hi => by
    unfold fJA_fill_k23_L5
    rw [if_pos (by omega), xA_p (by omega), xw32_id (x := (i : Int) + 1) (by omega) (by omega)]
    refine xP_mono (fill_k23_L a v n g (i + 1) _ (by omega) (by omega)) ?_
    rintro m' ⟨hF, hm⟩
    refine ⟨xF_tr (xwr_F (xF_rfl _ _ _) (by omega) (by omega)) hF, fun j => ?_⟩
    rw [hm j, xwr_at]
    (repeat' split) <;> first | rfl | omega
theorem fill_k23_s (a v : Int) (m : xM) : xP (fJA_fill_k23 a v m) (fun m' => xF a a m m' ∧ ∀ j : Int, m' a j = if 0 ≤ j ∧ j < 24 then v else m a j) := fill_k23_L a v 24 20001 0 m (by omega) rfl
theorem fill_k25_L (a v : Int) : ∀ (n g i : Nat) (m : xM), n < g → i + n = 8 → xP (fJA_fill_k25_L6 g a v (i : Int) 8 m) (fun m' => xF a a m m' ∧ ∀ j : Int, m' a j = if (i : Int) ≤ j ∧ j < 8 then v else m a j)
  | _, 0, _, _, hg, _ => absurd hg (Nat.not_lt_zero _)
  | 0, g + 1, i, m, _, hi => by
    unfold fJA_fill_k25_L6
    rw [if_neg (by omega)]
    exact xP_some ⟨xF_rfl _ _ _, fun j => by rw [if_neg (by omega)]⟩
  | n + 1, g + 1, i, m, hg, hi => by
    unfold fJA_fill_k25_L6
    rw [if_pos (by omega), xA_p (by omega), xw32_id (x := (i : Int) + 1) (by omega) (by omega)]
    refine xP_mono (fill_k25_L a v n g (i + 1) _ (by omega) (by omega)) ?_
    rintro m' ⟨hF, hm⟩
    refine ⟨xF_tr (xwr_F (xF_rfl _ _ _) (by omega) (by omega)) hF, fun j => ?_⟩
    rw [hm j, xwr_at]
    (repeat' split) <;> first | rfl | omega
theorem fill_k25_s (a v : Int) (m : xM) : xP (fJA_fill_k25 a v m) (fun m' => xF a a m m' ∧ ∀ j : Int, m' a j = if 0 ≤ j ∧ j < 8 then v else m a j) := fill_k25_L a v 8 20001 0 m (by omega) rfl
theorem fill_k26_L (a v : Int) : ∀ (n g i : Nat) (m : xM), n < g → i + n = 512 → xP (fJA_fill_k26_L5 g a v (i : Int) 512 m) (fun m' => xF a a m m' ∧ ∀ j : Int, m' a j = if (i : Int) ≤ j ∧ j < 512 then v else m a j)
  | _, 0, _, _, hg, _ => absurd hg (Nat.not_lt_zero _)
  | 0, g + 1, i, m, _, hi => by
    unfold fJA_fill_k26_L5
    rw [if_neg (by omega)]
    exact xP_some ⟨xF_rfl _ _ _, fun j => by rw [if_neg (by omega)]⟩
  | n + 1, g + 1, i, m, hg, hi => by
    unfold fJA_fill_k26_L5
    rw [if_pos (by omega), xA_p (by omega), xw32_id (x := (i : Int) + 1) (by omega) (by omega)]
    refine xP_mono (fill_k26_L a v n g (i + 1) _ (by omega) (by omega)) ?_
    rintro m' ⟨hF, hm⟩
    refine ⟨xF_tr (xwr_F (xF_rfl _ _ _) (by omega) (by omega)) hF, fun j => ?_⟩
    rw [hm j, xwr_at]
    (repeat' split) <;> first | rfl | omega
theorem fill_k26_s (a v : Int) (m : xM) : xP (fJA_fill_k26 a v m) (fun m' => xF a a m m' ∧ ∀ j : Int, m' a j = if 0 ≤ j ∧ j < 512 then v else m a j) := fill_k26_L a v 512 20001 0 m (by omega) rfl
theorem fill_k28_L (a v : Int) : ∀ (n g i : Nat) (m : xM), n < g → i + n = 60 → xP (fJA_fill_k28_L6 g a v (i : Int) 60 m) (fun m' => xF a a m m' ∧ ∀ j : Int, m' a j = if (i : Int) ≤ j ∧ j < 60 then v else m a j)
  | _, 0, _, _, hg, _ => absurd hg (Nat.not_lt_zero _)
  | 0, g + 1, i, m, _, hi => by
    unfold fJA_fill_k28_L6
    rw [if_neg (by omega)]
    exact xP_some ⟨xF_rfl _ _ _, fun j => by rw [if_neg (by omega)]⟩
  | n + 1, g + 1, i, m, hg, hi => by
    unfold fJA_fill_k28_L6
    rw [if_pos (by omega), xA_p (by omega), xw32_id (x := (i : Int) + 1) (by omega) (by omega)]
    refine xP_mono (fill_k28_L a v n g (i + 1) _ (by omega) (by omega)) ?_
    rintro m' ⟨hF, hm⟩
    refine ⟨xF_tr (xwr_F (xF_rfl _ _ _) (by omega) (by omega)) hF, fun j => ?_⟩
    rw [hm j, xwr_at]
    (repeat' split) <;> first | rfl | omega
theorem fill_k28_s (a v : Int) (m : xM) : xP (fJA_fill_k28 a v m) (fun m' => xF a a m m' ∧ ∀ j : Int, m' a j = if 0 ≤ j ∧ j < 60 then v else m a j) := fill_k28_L a v 60 20001 0 m (by omega) rfl
theorem xbt_low (s : Int) {d : Int} (h0 : 0 ≤ d) (h1 : d < 6) : xbt (s % 64) d = xbt s d := by
  rw [xbt_div _ h0 (by omega), xbt_div _ h0 (by omega)]
  apply decide_eq_decide.mpr
  have : d = 0 ∨ d = 1 ∨ d = 2 ∨ d = 3 ∨ d = 4 ∨ d = 5 := by omega
  rcases this with rfl | rfl | rfl | rfl | rfl | rfl <;> simp <;> omega
theorem xbt_high (s : Int) {d : Int} (h0 : 0 ≤ d) (h1 : d < 3) : xbt (s / 64) d = xbt s (d + 6) := by
  rw [xbt_div _ h0 (by omega), xbt_div _ (by omega) (by omega)]
  apply decide_eq_decide.mpr
  have : d = 0 ∨ d = 1 ∨ d = 2 := by omega
  rcases this with rfl | rfl | rfl <;> simp <;> omega
theorem xbt_9 {s d : Int} (h0 : 0 ≤ s) (h1 : s < 512) (h2 : 9 ≤ d) (h3 : d < 32) : xbt s d = false := xbt_hi (n := 9) h0 h1 h2 h3
theorem xand_split {s b : Int} (h0 : 0 ≤ s) (h1 : s < 512) (b0 : 0 ≤ b) (b1 : b < 512) : xand s b = 0 ↔ xand (s / 64) (b / 64) = 0 ∧ ∀ i : Int, 0 ≤ i → i < 6 → xbt b i = true → xbt (s % 64) i = false := by
  rw [xand_0, xand_0]
  constructor
  · intro h
    refine ⟨fun d d0 d1 => ?_, fun i i0 i1 hb => ?_⟩
    · by_cases e : d < 3
      · rw [xbt_high s d0 e, xbt_high b d0 e]; exact h (d + 6) (by omega) (by omega)
      · rintro ⟨x, -⟩
        rw [xbt_hi (n := 3) (by omega) (by omega) (by omega) d1] at x
        cases x
    · rw [xbt_low s i0 i1]
      cases hx : xbt s i
      · rfl
      · exact absurd ⟨hx, hb⟩ (h i i0 (by omega))
  · rintro ⟨p, q⟩ d d0 d1 ⟨x, y⟩
    by_cases e : d < 6
    · have := q d d0 e y
      rw [xbt_low s d0 e, x] at this
      cases this
    · by_cases e2 : d < 9
      · have := p (d - 6) (by omega) (by omega)
        rw [xbt_high s (by omega) (by omega), xbt_high b (by omega) (by omega), show d - 6 + 6 = d by omega] at this
        exact this ⟨x, y⟩
      · rw [xbt_9 h0 h1 (by omega) d1] at x
        cases x
theorem xsh_lit : xshl 1 0 = 1 ∧ xshl 1 1 = 2 ∧ xshl 1 2 = 4 ∧ xshl 1 3 = 8 ∧ xshl 1 4 = 16 ∧ xshl 1 5 = 32 ∧ xshl 1 6 = 64 ∧ xshl 1 7 = 128 ∧ xshl 1 8 = 256 ∧ xshl 1 9 = 512 := by
  refine ⟨?_, ?_, ?_, ?_, ?_, ?_, ?_, ?_, ?_, ?_⟩ <;> (rw [(xshl1_pw (by decide) (by decide)).1]; rfl)
theorem xw8_or : ∀ w, w < 8 → (w ||| 1 = if w.testBit 0 then w else w + 1) ∧ (w ||| 2 = if w.testBit 1 then w else w + 2) ∧ (w ||| 4 = if w.testBit 2 then w else w + 4) := by decide
theorem xor_0n {w : Int} (h0 : 0 ≤ w) (h1 : w < 8) : xor32 w 0 = w := xor_0r (by constructor <;> omega)
/-- how an opening moves the sets: by st words and sh places -/
theorem xmv (c : Int) (M : xM) (h0 : 0 ≤ c) (h1 : c < 9) : ∃ st sh : Int, fSets_wordStep c M = st ∧ fSets_bitShift c M = sh ∧ 64 * st + sh = 2 ^ c.toNat ∧ 0 ≤ sh ∧ sh < 64 ∧ 0 ≤ st ∧ st ≤ 4 ∧ (∀ s : Int, 0 ≤ s → s < 512 → xbt s c = false → s / 64 + st < 8 ∧ s % 64 + sh < 64) ∧ (∀ w : Int, 0 ≤ w → w < 8 → (6 ≤ c → xbt w (c - 6) = false) → xor32 w st = w + st) := by
  obtain ⟨s0, s1, s2, s3, s4, s5, s6, s7, s8, s9⟩ := xsh_lit
  have low : ∀ (k : Int), 0 ≤ k → k < 6 → ∀ q : Int, xshl 1 k = q → q = 2 ^ k.toNat → q < 64 → 1 ≤ q → (∀ s : Int, 0 ≤ s → s < 512 → xbt s k = false → s % 64 + q < 64) → ∃ st sh : Int, fSets_wordStep k M = st ∧ fSets_bitShift k M = sh ∧ 64 * st + sh = 2 ^ k.toNat ∧ 0 ≤ sh ∧ sh < 64 ∧ 0 ≤ st ∧ st ≤ 4 ∧ (∀ s : Int, 0 ≤ s → s < 512 → xbt s k = false → s / 64 + st < 8 ∧ s % 64 + sh < 64) ∧ (∀ w : Int, 0 ≤ w → w < 8 → (6 ≤ k → xbt w (k - 6) = false) → xor32 w st = w + st) := by
    intro k k0 k1 q e1 e2 e3 e4 e5
    refine ⟨0, q, ?_, ?_, by omega, by omega, e3, by omega, by omega, fun s a b h => ⟨by omega, e5 s a b h⟩, fun w a b _ => by rw [xor_0n a b]; omega⟩
    · unfold fSets_wordStep; rw [if_pos k1]
    · unfold fSets_bitShift; rw [if_pos k1, e1]
  have high : ∀ (k : Int), 6 ≤ k → k < 9 → ∀ q : Int, xshl 1 (k - 6) = q → 64 * q = 2 ^ k.toNat → q ≤ 4 → 1 ≤ q → (∀ s : Int, 0 ≤ s → s < 512 → xbt s k = false → s / 64 + q < 8) → (∀ w : Int, 0 ≤ w → w < 8 → xbt w (k - 6) = false → xor32 w q = w + q) → ∃ st sh : Int, fSets_wordStep k M = st ∧ fSets_bitShift k M = sh ∧ 64 * st + sh = 2 ^ k.toNat ∧ 0 ≤ sh ∧ sh < 64 ∧ 0 ≤ st ∧ st ≤ 4 ∧ (∀ s : Int, 0 ≤ s → s < 512 → xbt s k = false → s / 64 + st < 8 ∧ s % 64 + sh < 64) ∧ (∀ w : Int, 0 ≤ w → w < 8 → (6 ≤ k → xbt w (k - 6) = false) → xor32 w st = w + st) := by
    intro k k0 k1 q e1 e2 e3 e4 e5 e6
    refine ⟨q, 0, ?_, ?_, by omega, by omega, by omega, by omega, e3, fun s a b h => ⟨e5 s a b h, by omega⟩, fun w a b h => e6 w a b (h k0)⟩
    · unfold fSets_wordStep; rw [if_neg (by omega), xw32_id (by omega) (by omega), e1]
    · unfold fSets_bitShift; rw [if_neg (by omega)]
  have orr : ∀ (w q : Int) (i : Nat), 0 ≤ w → w < 8 → i < 3 → q = 2 ^ i → xbt w (i : Int) = false → xor32 w q = w + q := by
    intro w q i a b c e h
    obtain ⟨n, rfl⟩ := Int.eq_ofNat_of_zero_le a
    rw [xbt_nat n i (by omega) (by omega)] at h
    have t := xw8_or n (by omega)
    have hi : i = 0 ∨ i = 1 ∨ i = 2 := by omega
    rcases hi with rfl | rfl | rfl
    · rw [h] at t; rw [e]; rw [show ((2 : Int) ^ 0) = ((1 : Nat) : Int) from rfl, xor_nat (by omega) (by omega), t.1]; rfl
    · rw [h] at t; rw [e]; rw [show ((2 : Int) ^ 1) = ((2 : Nat) : Int) from rfl, xor_nat (by omega) (by omega), t.2.1]; rfl
    · rw [h] at t; rw [e]; rw [show ((2 : Int) ^ 2) = ((4 : Nat) : Int) from rfl, xor_nat (by omega) (by omega), t.2.2]; rfl
  have hc : c = 0 ∨ c = 1 ∨ c = 2 ∨ c = 3 ∨ c = 4 ∨ c = 5 ∨ c = 6 ∨ c = 7 ∨ c = 8 := by omega
  rcases hc with rfl | rfl | rfl | rfl | rfl | rfl | rfl | rfl | rfl
  · exact low 0 (by decide) (by decide) 1 s0 (by rfl) (by decide) (by decide) (fun s a b h => by rw [xbt_div s (by decide) (by decide)] at h; simp at h; omega)
  · exact low 1 (by decide) (by decide) 2 s1 (by rfl) (by decide) (by decide) (fun s a b h => by rw [xbt_div s (by decide) (by decide)] at h; simp at h; omega)
  · exact low 2 (by decide) (by decide) 4 s2 (by rfl) (by decide) (by decide) (fun s a b h => by rw [xbt_div s (by decide) (by decide)] at h; simp at h; omega)
  · exact low 3 (by decide) (by decide) 8 s3 (by rfl) (by decide) (by decide) (fun s a b h => by rw [xbt_div s (by decide) (by decide)] at h; simp at h; omega)
  · exact low 4 (by decide) (by decide) 16 s4 (by rfl) (by decide) (by decide) (fun s a b h => by rw [xbt_div s (by decide) (by decide)] at h; simp at h; omega)
  · exact low 5 (by decide) (by decide) 32 s5 (by rfl) (by decide) (by decide) (fun s a b h => by rw [xbt_div s (by decide) (by decide)] at h; simp at h; omega)
  · exact high 6 (by decide) (by decide) 1 s0 (by rfl) (by decide) (by decide) (fun s a b h => by rw [xbt_div s (by decide) (by decide)] at h; simp at h; omega) (fun w a b h => orr w 1 0 a b (by decide) rfl h)
  · exact high 7 (by decide) (by decide) 2 s1 (by rfl) (by decide) (by decide) (fun s a b h => by rw [xbt_div s (by decide) (by decide)] at h; simp at h; omega) (fun w a b h => orr w 2 1 a b (by decide) rfl h)
  · exact high 8 (by decide) (by decide) 4 s2 (by rfl) (by decide) (by decide) (fun s a b h => by rw [xbt_div s (by decide) (by decide)] at h; simp at h; omega) (fun w a b h => orr w 4 2 a b (by decide) rfl h)
/-- the sets that are told at r are those with P -/
def xSt (m : xM) (r : Int) (P : Int → Prop) : Prop := ∀ s : Int, 0 ≤ s → s < 512 → (xbl (m (r + 1) (s / 64)) (s % 64) = true ↔ P s)
theorem xSt_go {M m : xM} {r : Int} {P : Int → Prop} (h : xSt M r P) (e : m (r + 1) = M (r + 1)) : xSt m r P := by
  intro s a b
  rw [e]
  exact h s a b
theorem xSt_iff {m : xM} {r : Int} {P Q : Int → Prop} (h : xSt m r P) (e : ∀ s : Int, 0 ≤ s → s < 512 → (P s ↔ Q s)) : xSt m r Q := fun s a b => (h s a b).trans (e s a b)
theorem clear_s (r : Int) (M : xM) : xP (fSets_clear r M) (fun m => xF (r + 1) (r + 1) M m ∧ xSt m r (fun _ => False)) := by
  unfold fSets_clear
  refine xP_B (fill_k25_s (r + 1) 0 M) ?_
  rintro m ⟨hF, hm⟩
  refine xP_some ⟨hF, fun s a b => ?_⟩
  rw [hm, if_pos (by omega), xbl_0]
  simp
theorem xix {s : Int} (h0 : 0 ≤ s) (h1 : s < 512) : xand (xshr s 6) 7 = s / 64 ∧ xand s 63 = s % 64 := by
  rw [xshr_pw s (by decide) (by decide), xand_7, xand_63]
  have : (2 : Int) ^ (6 : Int).toNat = 64 := rfl
  rw [this]
  constructor
  · omega
  · rfl
theorem add_s {M : xM} {r s : Int} {P : Int → Prop} (h : xSt M r P) (h0 : 0 ≤ s) (h1 : s < 512) : xP (fSets_add r s M) (fun m => xF (r + 1) (r + 1) M m ∧ xSt m r (fun t => P t ∨ t = s)) := by
  obtain ⟨e1, e2⟩ := xix h0 h1
  unfold fSets_add
  rw [e1, e2, xA_p (by omega), xA_p (by omega)]
  refine xP_some ⟨xwr_F (xF_rfl _ _ _) (by omega) (by omega), fun t a b => ?_⟩
  rw [xwr_at]
  by_cases e : t / 64 = s / 64
  · rw [if_pos ⟨rfl, e⟩, xbl_or, xbl_shl1 (by omega) (by omega) (by omega) (by omega), ← e, Bool.or_eq_true, h t a b, decide_eq_true_iff]
    constructor
    · rintro (p | p)
      · exact Or.inl p
      · right; omega
    · rintro (p | p)
      · exact Or.inl p
      · right; omega
  · rw [if_neg (fun x => e x.2), h t a b]
    constructor
    · exact Or.inl
    · rintro (p | p)
      · exact p
      · exact absurd (by rw [p]) e
theorem has_s {M : xM} {r s : Int} {P : Int → Prop} (h : xSt M r P) (h0 : 0 ≤ s) (h1 : s < 512) : xP (fSets_has r s M) (fun v => (v = 1 ∧ P s) ∨ (v = 0 ∧ ¬ P s)) := by
  obtain ⟨e1, e2⟩ := xix h0 h1
  unfold fSets_has
  rw [e1, e2, xA_p (by omega), xbl_t _ (by omega) (by omega)]
  have hh := h s h0 h1
  refine xP_some ?_
  cases hx : xbl (M (r + 1) (s / 64)) (s % 64)
  · right
    refine ⟨?_, fun p => by rw [hh.mpr p] at hx; cases hx⟩
    rw [if_neg]
    rw [xcmp_0]; decide
  · left
    refine ⟨?_, hh.mp hx⟩
    rw [if_pos]
    rw [xcmp_0]; rfl
theorem copySet_s {M : xM} {a b : Int} {P : Int → Prop} (h : xSt M b P) : xF (a + 1) (a + 1) M (fSets_copy a b M) ∧ xSt (fSets_copy a b M) a P := by
  unfold fSets_copy
  refine ⟨xcpy_F (xF_rfl _ _ _) (by omega) (by omega), fun s h0 h1 => ?_⟩
  rw [xcpy_at, if_pos ⟨rfl, by omega, by omega⟩, show s / 64 - 0 + 0 = s / 64 by omega]
  exact h s h0 h1
end
