/-! keep, back -/
noncomputable section
theorem copyRow31_L {a w v : Int} (w0 : 0 ≤ w) (w1 : w ≤ 4) (v0 : 0 ≤ v) (v1 : v ≤ 4) (hne : w ≠ v) : ∀ (k g i : Nat) (m : xM), k < g → i + k = 1 → xP (fQ_copyRow_k31_L3 g a 1 w v (i : Int) m) (fun m' => xF a a m m' ∧ ∀ j : Int, m' a j = if 1 * v + (i : Int) ≤ j ∧ j < 1 * v + 1 then m a (j - 1 * v + 1 * w) else m a j)
  | _, 0, _, _, hg, _ => absurd hg (Nat.not_lt_zero _)
  | 0, g + 1, i, m, _, hi => by
    unfold fQ_copyRow_k31_L3
    rw [if_neg (by omega)]
    exact xP_some ⟨xF_rfl _ _ _, fun j => by rw [if_neg (by omega)]⟩
  | k + 1, g + 1, i, m, hg, hi => by
    unfold fQ_copyRow_k31_L3
    rw [if_pos (by omega), xw32_id (x := 1 * w) (by omega) (by omega), xw32_id (x := 1 * v) (by omega) (by omega), xw32_id (x := 1 * w + (i : Int)) (by omega) (by omega), xw32_id (x := 1 * v + (i : Int)) (by omega) (by omega), xA_p (by omega), xA_p (by omega), xw32_id (x := (i : Int) + 1) (by omega) (by omega)]
    refine xP_mono (copyRow31_L w0 w1 v0 v1 hne k g (i + 1) _ (by omega) (by omega)) ?_
    rintro m' ⟨hF, hm⟩
    refine ⟨xF_tr (xwr_F (xF_rfl _ _ _) (by omega) (by omega)) hF, fun j => ?_⟩
    rw [hm j]
    by_cases e : j = 1 * v + (i : Int)
    · rw [if_neg (by omega), if_pos (by omega), e, xwr_s, show 1 * v + (i : Int) - 1 * v + 1 * w = 1 * w + (i : Int) by omega]
    · by_cases h : 1 * v + (i : Int) ≤ j ∧ j < 1 * v + 1
      · rw [if_pos (by omega), if_pos h, xwr_n _ (by omega)]
      · rw [if_neg (by omega), if_neg h, xwr_n _ (by omega)]
theorem copyRow32_L {a w v : Int} (w0 : 0 ≤ w) (w1 : w ≤ 4) (v0 : 0 ≤ v) (v1 : v ≤ 4) (hne : w ≠ v) : ∀ (k g i : Nat) (m : xM), k < g → i + k = 7 → xP (fQ_copyRow_k32_L3 g a 7 w v (i : Int) m) (fun m' => xF a a m m' ∧ ∀ j : Int, m' a j = if 7 * v + (i : Int) ≤ j ∧ j < 7 * v + 7 then m a (j - 7 * v + 7 * w) else m a j)
  | _, 0, _, _, hg, _ => absurd hg (Nat.not_lt_zero _)
  | 0, g + 1, i, m, _, hi => by
    unfold fQ_copyRow_k32_L3
    rw [if_neg (by omega)]
    exact xP_some ⟨xF_rfl _ _ _, fun j => by rw [if_neg (by omega)]⟩
  | k + 1, g + 1, i, m, hg, hi => by
    unfold fQ_copyRow_k32_L3
    rw [if_pos (by omega), xw32_id (x := 7 * w) (by omega) (by omega), xw32_id (x := 7 * v) (by omega) (by omega), xw32_id (x := 7 * w + (i : Int)) (by omega) (by omega), xw32_id (x := 7 * v + (i : Int)) (by omega) (by omega), xA_p (by omega), xA_p (by omega), xw32_id (x := (i : Int) + 1) (by omega) (by omega)]
    refine xP_mono (copyRow32_L w0 w1 v0 v1 hne k g (i + 1) _ (by omega) (by omega)) ?_
    rintro m' ⟨hF, hm⟩
    refine ⟨xF_tr (xwr_F (xF_rfl _ _ _) (by omega) (by omega)) hF, fun j => ?_⟩
    rw [hm j]
    by_cases e : j = 7 * v + (i : Int)
    · rw [if_neg (by omega), if_pos (by omega), e, xwr_s, show 7 * v + (i : Int) - 7 * v + 7 * w = 7 * w + (i : Int) by omega]
    · by_cases h : 7 * v + (i : Int) ≤ j ∧ j < 7 * v + 7
      · rw [if_pos (by omega), if_pos h, xwr_n _ (by omega)]
      · rw [if_neg (by omega), if_neg h, xwr_n _ (by omega)]
theorem copyRow33_L {a w v : Int} (w0 : 0 ≤ w) (w1 : w ≤ 4) (v0 : 0 ≤ v) (v1 : v ≤ 4) (hne : w ≠ v) : ∀ (k g i : Nat) (m : xM), k < g → i + k = 54 → xP (fQ_copyRow_k33_L3 g a 54 w v (i : Int) m) (fun m' => xF a a m m' ∧ ∀ j : Int, m' a j = if 54 * v + (i : Int) ≤ j ∧ j < 54 * v + 54 then m a (j - 54 * v + 54 * w) else m a j)
  | _, 0, _, _, hg, _ => absurd hg (Nat.not_lt_zero _)
  | 0, g + 1, i, m, _, hi => by
    unfold fQ_copyRow_k33_L3
    rw [if_neg (by omega)]
    exact xP_some ⟨xF_rfl _ _ _, fun j => by rw [if_neg (by omega)]⟩
  | k + 1, g + 1, i, m, hg, hi => by
    unfold fQ_copyRow_k33_L3
    rw [if_pos (by omega), xw32_id (x := 54 * w) (by omega) (by omega), xw32_id (x := 54 * v) (by omega) (by omega), xw32_id (x := 54 * w + (i : Int)) (by omega) (by omega), xw32_id (x := 54 * v + (i : Int)) (by omega) (by omega), xA_p (by omega), xA_p (by omega), xw32_id (x := (i : Int) + 1) (by omega) (by omega)]
    refine xP_mono (copyRow33_L w0 w1 v0 v1 hne k g (i + 1) _ (by omega) (by omega)) ?_
    rintro m' ⟨hF, hm⟩
    refine ⟨xF_tr (xwr_F (xF_rfl _ _ _) (by omega) (by omega)) hF, fun j => ?_⟩
    rw [hm j]
    by_cases e : j = 54 * v + (i : Int)
    · rw [if_neg (by omega), if_pos (by omega), e, xwr_s, show 54 * v + (i : Int) - 54 * v + 54 * w = 54 * w + (i : Int) by omega]
    · by_cases h : 54 * v + (i : Int) ≤ j ∧ j < 54 * v + 54
      · rw [if_pos (by omega), if_pos h, xwr_n _ (by omega)]
      · rw [if_neg (by omega), if_neg h, xwr_n _ (by omega)]
theorem copyRow34_L {a w v : Int} (w0 : 0 ≤ w) (w1 : w ≤ 4) (v0 : 0 ≤ v) (v1 : v ≤ 4) (hne : w ≠ v) : ∀ (k g i : Nat) (m : xM), k < g → i + k = 24 → xP (fQ_copyRow_k34_L3 g a 24 w v (i : Int) m) (fun m' => xF a a m m' ∧ ∀ j : Int, m' a j = if 24 * v + (i : Int) ≤ j ∧ j < 24 * v + 24 then m a (j - 24 * v + 24 * w) else m a j)
  | _, 0, _, _, hg, _ => absurd hg (Nat.not_lt_zero _)
  | 0, g + 1, i, m, _, hi => by
    unfold fQ_copyRow_k34_L3
    rw [if_neg (by omega)]
    exact xP_some ⟨xF_rfl _ _ _, fun j => by rw [if_neg (by omega)]⟩
  | k + 1, g + 1, i, m, hg, hi => by
    unfold fQ_copyRow_k34_L3
    rw [if_pos (by omega), xw32_id (x := 24 * w) (by omega) (by omega), xw32_id (x := 24 * v) (by omega) (by omega), xw32_id (x := 24 * w + (i : Int)) (by omega) (by omega), xw32_id (x := 24 * v + (i : Int)) (by omega) (by omega), xA_p (by omega), xA_p (by omega), xw32_id (x := (i : Int) + 1) (by omega) (by omega)]
    refine xP_mono (copyRow34_L w0 w1 v0 v1 hne k g (i + 1) _ (by omega) (by omega)) ?_
    rintro m' ⟨hF, hm⟩
    refine ⟨xF_tr (xwr_F (xF_rfl _ _ _) (by omega) (by omega)) hF, fun j => ?_⟩
    rw [hm j]
    by_cases e : j = 24 * v + (i : Int)
    · rw [if_neg (by omega), if_pos (by omega), e, xwr_s, show 24 * v + (i : Int) - 24 * v + 24 * w = 24 * w + (i : Int) by omega]
    · by_cases h : 24 * v + (i : Int) ≤ j ∧ j < 24 * v + 24
      · rw [if_pos (by omega), if_pos h, xwr_n _ (by omega)]
      · rw [if_neg (by omega), if_neg h, xwr_n _ (by omega)]
theorem copyRow35_L {a w v : Int} (w0 : 0 ≤ w) (w1 : w ≤ 4) (v0 : 0 ≤ v) (v1 : v ≤ 4) (hne : w ≠ v) : ∀ (k g i : Nat) (m : xM), k < g → i + k = 32 → xP (fQ_copyRow_k35_L3 g a 32 w v (i : Int) m) (fun m' => xF a a m m' ∧ ∀ j : Int, m' a j = if 32 * v + (i : Int) ≤ j ∧ j < 32 * v + 32 then m a (j - 32 * v + 32 * w) else m a j)
  | _, 0, _, _, hg, _ => absurd hg (Nat.not_lt_zero _)
  | 0, g + 1, i, m, _, hi => by
    unfold fQ_copyRow_k35_L3
    rw [if_neg (by omega)]
    exact xP_some ⟨xF_rfl _ _ _, fun j => by rw [if_neg (by omega)]⟩
  | k + 1, g + 1, i, m, hg, hi => by
    unfold fQ_copyRow_k35_L3
    rw [if_pos (by omega), xw32_id (x := 32 * w) (by omega) (by omega), xw32_id (x := 32 * v) (by omega) (by omega), xw32_id (x := 32 * w + (i : Int)) (by omega) (by omega), xw32_id (x := 32 * v + (i : Int)) (by omega) (by omega), xA_p (by omega), xA_p (by omega), xw32_id (x := (i : Int) + 1) (by omega) (by omega)]
    refine xP_mono (copyRow35_L w0 w1 v0 v1 hne k g (i + 1) _ (by omega) (by omega)) ?_
    rintro m' ⟨hF, hm⟩
    refine ⟨xF_tr (xwr_F (xF_rfl _ _ _) (by omega) (by omega)) hF, fun j => ?_⟩
    rw [hm j]
    by_cases e : j = 32 * v + (i : Int)
    · rw [if_neg (by omega), if_pos (by omega), e, xwr_s, show 32 * v + (i : Int) - 32 * v + 32 * w = 32 * w + (i : Int) by omega]
    · by_cases h : 32 * v + (i : Int) ≤ j ∧ j < 32 * v + 32
      · rw [if_pos (by omega), if_pos h, xwr_n _ (by omega)]
      · rw [if_neg (by omega), if_neg h, xwr_n _ (by omega)]
theorem copyPrison_s {M : xM} {w v : Int} (w0 : 0 ≤ w) (w1 : w ≤ 4) (v0 : 0 ≤ v) (v1 : v ≤ 4) (hne : w ≠ v) : xP (fQ_copyPrison 310 w v M) (fun m => (∀ a : Int, (a < 316 ∨ 321 < a) → m a = M a) ∧ xSg M m w v ∧ ∀ u : Int, u ≠ v → xSg M m u u) := by
  unfold fQ_copyPrison
  refine xP_B (copyRow31_L (a := 310 + 6) w0 w1 v0 v1 hne 1 20001 0 M (by decide) rfl) ?_
  rintro m1 ⟨f1, g1⟩
  refine xP_B (copyRow32_L (a := 310 + 7) w0 w1 v0 v1 hne 7 20001 0 m1 (by decide) rfl) ?_
  rintro m2 ⟨f2, g2⟩
  refine xP_B (copyRow33_L (a := 310 + 8) w0 w1 v0 v1 hne 54 20001 0 m2 (by decide) rfl) ?_
  rintro m3 ⟨f3, g3⟩
  refine xP_B (copyRow34_L (a := 310 + 9) w0 w1 v0 v1 hne 24 20001 0 m3 (by decide) rfl) ?_
  rintro m4 ⟨f4, g4⟩
  refine xP_B (copyRow35_L (a := 310 + 10) w0 w1 v0 v1 hne 32 20001 0 m4 (by decide) rfl) ?_
  rintro m5 ⟨f5, g5⟩
  refine xP_B (copyRow34_L (a := 310 + 11) w0 w1 v0 v1 hne 24 20001 0 m5 (by decide) rfl) ?_
  rintro m6 ⟨f6, g6⟩
  have F1 : ∀ a : Int, a ≠ 310 + 6 → m1 a = M a := fun a ha => f1 a (by omega)
  have F2 : ∀ a : Int, a ≠ 310 + 7 → m2 a = m1 a := fun a ha => f2 a (by omega)
  have F3 : ∀ a : Int, a ≠ 310 + 8 → m3 a = m2 a := fun a ha => f3 a (by omega)
  have F4 : ∀ a : Int, a ≠ 310 + 9 → m4 a = m3 a := fun a ha => f4 a (by omega)
  have F5 : ∀ a : Int, a ≠ 310 + 10 → m5 a = m4 a := fun a ha => f5 a (by omega)
  have F6 : ∀ a : Int, a ≠ 310 + 11 → m6 a = m5 a := fun a ha => f6 a (by omega)
  have r6 : m6 (310 + 6) = m1 (310 + 6) := by rw [F6 _ (by decide), F5 _ (by decide), F4 _ (by decide), F3 _ (by decide), F2 _ (by decide)]
  have r7 : m6 (310 + 7) = m2 (310 + 7) := by rw [F6 _ (by decide), F5 _ (by decide), F4 _ (by decide), F3 _ (by decide)]
  have r8 : m6 (310 + 8) = m3 (310 + 8) := by rw [F6 _ (by decide), F5 _ (by decide), F4 _ (by decide)]
  have r9 : m6 (310 + 9) = m4 (310 + 9) := by rw [F6 _ (by decide), F5 _ (by decide)]
  have r10 : m6 (310 + 10) = m5 (310 + 10) := by rw [F6 _ (by decide)]
  have b7 : m1 (310 + 7) = M (310 + 7) := F1 _ (by decide)
  have b8 : m2 (310 + 8) = M (310 + 8) := by rw [F2 _ (by decide), F1 _ (by decide)]
  have b9 : m3 (310 + 9) = M (310 + 9) := by rw [F3 _ (by decide), F2 _ (by decide), F1 _ (by decide)]
  have b10 : m4 (310 + 10) = M (310 + 10) := by rw [F4 _ (by decide), F3 _ (by decide), F2 _ (by decide), F1 _ (by decide)]
  have b11 : m5 (310 + 11) = M (310 + 11) := by rw [F5 _ (by decide), F4 _ (by decide), F3 _ (by decide), F2 _ (by decide), F1 _ (by decide)]
  rw [b7] at g2
  rw [b8] at g3
  rw [b9] at g4
  rw [b10] at g5
  rw [b11] at g6
  refine xP_some ⟨fun a ha => ?_, ⟨?_, fun i i0 i1 => ?_, fun i i0 i1 => ?_, fun i i0 i1 => ?_, fun i i0 i1 => ?_, fun i i0 i1 => ?_⟩, fun u hu => ⟨?_, fun i i0 i1 => ?_, fun i i0 i1 => ?_, fun i i0 i1 => ?_, fun i i0 i1 => ?_, fun i i0 i1 => ?_⟩⟩
  · rw [F6 _ (by omega), F5 _ (by omega), F4 _ (by omega), F3 _ (by omega), F2 _ (by omega), F1 _ (by omega)]
  · rw [r6, g1, if_pos (by omega)]; congr 1; omega
  · rw [r7, g2, if_pos (by omega)]; congr 1; omega
  · rw [r8, g3, if_pos (by omega)]; congr 1; omega
  · rw [r9, g4, if_pos (by omega)]; congr 1; omega
  · rw [r10, g5, if_pos (by omega)]; congr 1; omega
  · rw [g6, if_pos (by omega)]; congr 1; omega
  · rw [r6, g1, if_neg (by omega)]
  · rw [r7, g2, if_neg (by omega)]
  · rw [r8, g3, if_neg (by omega)]
  · rw [r9, g4, if_neg (by omega)]
  · rw [r10, g5, if_neg (by omega)]
  · rw [g6, if_neg (by omega)]
/-- only the places that are there count -/
theorem xWE_vd {V U : xM} (w : xWE V) (e : ∀ a i : Int, xvd a i → U a i = V a i) : xWE U := by
  have e0 : ∀ i : Int, 0 ≤ i → i < 8 → U 0 i = V 0 i := fun i i0 i1 => e 0 i (by unfold xvd; omega)
  have e1 : ∀ a i : Int, 1 ≤ a → a ≤ 5 → 0 ≤ i → i < 9 → U a i = V a i := fun a i a0 a1 i0 i1 => e a i (by unfold xvd; omega)
  have e6 : ∀ i : Int, 0 ≤ i → i < 18 → U 6 i = V 6 i := fun i i0 i1 => e 6 i (by unfold xvd; omega)
  have e8 : ∀ i : Int, 0 ≤ i → i < 9 → U 8 i = V 8 i := fun i i0 i1 => e 8 i (by unfold xvd; omega)
  have e10 : ∀ i : Int, 0 ≤ i → i < 24 → U 10 i = V 10 i := fun i i0 i1 => e 10 i (by unfold xvd; omega)
  unfold xWE xWF at w ⊢
  rw [e0 0 (by decide) (by decide), e0 1 (by decide) (by decide), e0 2 (by decide) (by decide), e0 3 (by decide) (by decide), e0 4 (by decide) (by decide), e0 5 (by decide) (by decide), e0 6 (by decide) (by decide), e0 7 (by decide) (by decide)]
  refine ⟨⟨w.1.1, w.1.2.1, w.1.2.2.1, w.1.2.2.2.1, fun c c0 c1 => ?_, fun b b0 b1 => ?_, fun i i0 i1 => ?_, w.1.2.2.2.2.2.2.2.1, w.1.2.2.2.2.2.2.2.2.1, fun h h0 h1 => ?_⟩, w.2.1, w.2.2.1, w.2.2.2.1, w.2.2.2.2.1, w.2.2.2.2.2.1, w.2.2.2.2.2.2.1, w.2.2.2.2.2.2.2.1, w.2.2.2.2.2.2.2.2.1, w.2.2.2.2.2.2.2.2.2.1, w.2.2.2.2.2.2.2.2.2.2.1, fun c h c0 c1 => ?_, fun h h0 h1 => ?_⟩
  · rw [e1 1 c (by decide) (by decide) c0 c1, e1 2 c (by decide) (by decide) c0 c1, e1 3 c (by decide) (by decide) c0 c1, e1 5 c (by decide) (by decide) c0 c1]
    exact w.1.2.2.2.2.1 c c0 c1
  · rw [e6 b b0 b1]; exact w.1.2.2.2.2.2.1 b b0 b1
  · rw [e8 i i0 i1]; exact w.1.2.2.2.2.2.2.1 i i0 i1
  · rw [e10 h h0 h1]; exact w.1.2.2.2.2.2.2.2.2.2 h h0 h1
  · rw [e1 5 c (by decide) (by decide) c0 c1]; exact w.2.2.2.2.2.2.2.2.2.2.2.1 c h c0 c1
  · rw [e10 h h0 h1]; exact w.2.2.2.2.2.2.2.2.2.2.2.2 h h0 h1
theorem xQ0_vd {M V U : xM} {w : Int} (Q : xQ0 M 310 w V) (W : xWE V) (e : ∀ a i : Int, xvd a i → U a i = V a i) : xQ0 M 310 w U := by
  have e0 : ∀ i : Int, 0 ≤ i → i < 8 → U 0 i = V 0 i := fun i i0 i1 => e 0 i (by unfold xvd; omega)
  have e1 : ∀ a i : Int, 1 ≤ a → a ≤ 5 → 0 ≤ i → i < 9 → U a i = V a i := fun a i a0 a1 i0 i1 => e a i (by unfold xvd; omega)
  have e6 : ∀ i : Int, 0 ≤ i → i < 18 → U 6 i = V 6 i := fun i i0 i1 => e 6 i (by unfold xvd; omega)
  have e7 : ∀ a i : Int, 7 ≤ a → a ≤ 9 → 0 ≤ i → i < 9 → U a i = V a i := fun a i a0 a1 i0 i1 => e a i (by unfold xvd; omega)
  have e10 : ∀ i : Int, 0 ≤ i → i < 24 → U 10 i = V 10 i := fun i i0 i1 => e 10 i (by unfold xvd; omega)
  have q7 := W.2.2.2.2.2.2.2.2.1
  have nv : ∀ d s : Int, xnv U d s = xnv V d s := fun d s => by unfold xnv; rw [e0 0 (by decide) (by decide), e0 3 (by decide) (by decide)]
  unfold xQ0 xQd at Q ⊢
  rw [e0 0 (by decide) (by decide), e0 1 (by decide) (by decide), e0 2 (by decide) (by decide), e0 3 (by decide) (by decide), e0 4 (by decide) (by decide), e0 5 (by decide) (by decide), e0 6 (by decide) (by decide), e0 7 (by decide) (by decide)]
  simp only [nv]
  obtain ⟨⟨a, b, c, d, f, g⟩, h⟩ := Q
  refine ⟨⟨a, fun x x0 x1 => ?_, fun x y x0 x1 y0 y1 => ?_, fun x x0 x1 => ?_, fun k k0 k1 => ?_, fun y y0 y1 => ?_⟩, h⟩
  · rw [e1 1 x (by decide) (by decide) x0 x1, e1 2 x (by decide) (by decide) x0 x1, e1 3 x (by decide) (by decide) x0 x1, e6 (2 * x) (by omega) (by omega), e6 (2 * x + 1) (by omega) (by omega)]
    exact b x x0 x1
  · rw [e1 5 x (by decide) (by decide) x0 x1]; exact c x y x0 x1 y0 y1
  · rw [e1 4 x (by decide) (by decide) x0 x1]; exact d x x0 x1
  · rw [e7 7 k (by decide) (by decide) k0 (by omega), e7 8 k (by decide) (by decide) k0 (by omega), e7 9 k (by decide) (by decide) k0 (by omega)]
    exact f k k0 k1
  · rw [e10 y y0 y1]; exact g y y0 y1
theorem Sim_2 {M m : xM} (S : Sim M) (k : ∀ a : Int, xPer a → ¬ (266 ≤ a ∧ a ≤ 301) → ¬ (316 ≤ a ∧ a ≤ 322) → m a = M a) (k6 : m 310 6 = M 310 6) (k14 : m 310 14 = M 310 14) (k15 : m 310 15 = M 310 15) (s : xSg M m 0 0) (h : ∀ j : Int, 0 ≤ j → j < 3 → (m 267 j = 0 ∧ m 322 j = 0) ∨ (m 267 j = 1 ∧ m 322 j = 1 ∧ xWE (xVw m (269 + 11 * j)) ∧ xQ0 m 310 (1 + j) (xVw m (269 + 11 * j)))) : Sim m := by
  obtain ⟨t1, t2, t3, -, t5, t6⟩ := S
  have v16 : ∀ a i : Int, 0 ≤ a → a ≤ 10 → xVw m 16 a i = xVw M 16 a i := fun a i a0 a1 => by unfold xVw; rw [k _ (by unfold xPer; omega) (by omega) (by omega)]
  refine ⟨?_, ?_, ⟨xWE_go t3.1 v16, xQ0_V (xQ0_sg t3.2 t3.1 s) v16⟩, h, fun u a b => ?_, fun hp => ?_⟩
  · rw [k 3 (by unfold xPer; omega) (by omega) (by omega), k 4 (by unfold xPer; omega) (by omega) (by omega), k 315 (by unfold xPer; omega) (by omega) (by omega), k6]; exact t1
  · rw [k 2 (by unfold xPer; omega) (by omega) (by omega), k 13 (by unfold xPer; omega) (by omega) (by omega), k14, k15]; exact t2
  · rw [k 311 (by unfold xPer; omega) (by omega) (by omega), k 312 (by unfold xPer; omega) (by omega) (by omega), k 313 (by unfold xPer; omega) (by omega) (by omega), k (302 + 2 * u) (by unfold xPer; omega) (by omega) (by omega), k (303 + 2 * u) (by unfold xPer; omega) (by omega) (by omega)]
    exact t5 u a b
  · rw [k 16 (by unfold xPer; omega) (by omega) (by omega)] at hp
    obtain ⟨x, y⟩ := t6 hp
    refine ⟨xLook_V (xLook_go t3.1.1 x (fun a a0 a1 a2 => k a (by unfold xPer; omega) (by omega) (by omega))) v16, xCs_V ?_ v16⟩
    unfold xCs at y ⊢
    rw [k (256 + 1) (by unfold xPer; omega) (by omega) (by omega), k (256 + 2) (by unfold xPer; omega) (by omega) (by omega)]
    exact y
theorem call_61 {M : xM} (S : Sim M) (j : Int) : xC3 (fD_keep 1 j M) (fQ_keep 310 j) M := by
  have K : xKp M (xwr M 310 0 0) := xKp_w (xKp_rfl M) (by decide) (by decide) (by decide)
  have W := S.2.2.1.1
  have Q := S.2.2.1.2
  have e1 : xbit 1 = 1 := by rw [xbit_eq]; rfl
  by_cases h : 0 ≤ j ∧ j ≤ 2
  · obtain ⟨m1, c1, f1, v1⟩ := copy_s (M := M) (d := (1 + 265) + 3 + 11 * j) (s := 1 + 15) (by omega) (by rw [show M (1 + 15) 3 = xVw M 16 0 3 from xPv_0 (show xPv M (1 + 15) (xVw M 16) from xPv_V M 16) 3 (by decide) (by decide)]; exact W.1.2.2.1)
    obtain ⟨m3, c3, f3, s3, o3⟩ := copyPrison_s (M := xwr (xwr m1 267 j 1) 310 0 0) (w := 0) (v := 1 + j) (by decide) (by decide) (by omega) (by omega) (by omega)
    have p1 : ∀ a : Int, (a < 269 + 11 * j ∨ 279 + 11 * j < a) → m1 a = M a := fun a ha => f1 a (by omega)
    have p3 : ∀ a : Int, a ≠ 310 → a ≠ 267 → a ≠ 322 → (a < 316 ∨ 321 < a) → (xwr m3 322 j 1) a = m1 a := fun a a1 a2 a3 a4 => by rw [xwr_a _ a3, f3 a a4, xwr_a _ a1, xwr_a _ a2]
    have z310 : ∀ i : Int, i ≠ 0 → (xwr m3 322 j 1) 310 i = M 310 i := fun i hi => by rw [xwr_n _ (by omega), f3 310 (by omega), xwr_n _ (by omega), xwr_n _ (by omega), p1 310 (by omega)]
    have q0 : ∀ (w v : Int) (n : xM), (∀ a : Int, 316 ≤ a → a ≤ 321 → n a = M a) → xSg n m3 w v → xSg M (xwr m3 322 j 1) w v := fun w v n hn s => by
      obtain ⟨s6, s7, s8, s9, s10, s11⟩ := s
      refine ⟨?_, ?_, ?_, ?_, ?_, ?_⟩ <;> rw [xwr_a _ (by decide), ← hn _ (by decide) (by decide)]
      · exact s6
      · exact s7
      · exact s8
      · exact s9
      · exact s10
      · exact s11
    have hn : ∀ a : Int, 316 ≤ a → a ≤ 321 → (xwr (xwr m1 267 j 1) 310 0 0) a = M a := fun a a0 a1 => by rw [xwr_a _ (by omega), xwr_a _ (by omega), p1 a (by omega)]
    refine ⟨0, xwr m1 267 j 1, xwr m3 322 j 1, ?_, by rw [xwr_a _ (by omega), p1 0 (by omega)], ?_, by rw [p3 0 (by omega) (by omega) (by omega) (by omega), p1 0 (by omega)], ?_⟩
    · unfold fD_keep
      rw [if_neg (by omega), if_pos (by omega), xA_p (by omega), c1, xB_s, xA_p (by omega), e1]
      rfl
    · unfold fQ_keep
      rw [fQ_in_s]
      simp only [if10]
      rw [if_neg (not_not_intro h), xw32_id (x := 1 + j) (by omega) (by omega), c3, xB_s, xA_p (by omega), e1]
      rfl
    · refine Sim_2 S (fun a ha a1 a2 => ?_) (z310 6 (by decide)) (z310 14 (by decide)) (z310 15 (by decide)) (q0 0 0 _ hn (o3 0 (by omega))) (fun u u0 u1 => ?_)
      · rw [p3 a (by unfold xPer at ha; omega) (by omega) (by omega) (by omega), p1 a (by omega)]
      · have w1 : (xwr m3 322 j 1) 267 u = if u = j then 1 else M 267 u := by
          rw [xwr_n _ (by omega), f3 267 (by omega), xwr_n _ (by omega), xwr_at, p1 267 (by omega)]
          (repeat' split) <;> first | rfl | (exfalso; omega)
        have w2 : (xwr m3 322 j 1) 322 u = if u = j then 1 else M 322 u := by
          rw [xwr_at, f3 322 (by omega), xwr_n _ (by omega), xwr_n _ (by omega), p1 322 (by omega)]
          (repeat' split) <;> first | rfl | (exfalso; omega)
        by_cases e : u = j
        · subst e
          rw [if_pos rfl] at w1 w2
          have vd : ∀ a i : Int, xvd a i → xVw (xwr m3 322 u 1) (269 + 11 * u) a i = xVw M 16 a i := fun a i ha => by
            have := v1 (xVw M 16) (xPv_V M 16) a i ha
            unfold xVw
            have ar : 0 ≤ a ∧ a ≤ 10 := by unfold xvd at ha; omega
            rw [p3 _ (by omega) (by omega) (by omega) (by omega)]
            rw [show 269 + 11 * u + a = 1 + 265 + 3 + 11 * u + a by omega]
            exact this
          exact Or.inr ⟨w1, w2, xWE_vd W vd, xQ0_vd (xQ0_sg Q W (q0 0 (1 + u) _ hn s3)) W vd⟩
        · rw [if_neg e] at w1 w2
          rw [w1, w2]
          have vk : ∀ a i : Int, 0 ≤ a → a ≤ 10 → xVw (xwr m3 322 j 1) (269 + 11 * u) a i = xVw M (269 + 11 * u) a i := fun a i a0 a1 => by unfold xVw; rw [p3 _ (by omega) (by omega) (by omega) (by omega), p1 _ (by omega)]
          rcases S.2.2.2.1 u u0 u1 with x | ⟨x, y, z, b⟩
          · exact Or.inl x
          · exact Or.inr ⟨x, y, xWE_go z vk, xQ0_V (xQ0_sg b z (q0 (1 + u) (1 + u) _ hn (o3 (1 + u) (by omega)))) vk⟩
  · have d : fD_keep 1 j M = some (-2, M) := by
      unfold fD_keep
      by_cases a : j < 0
      · rw [if_pos a]
      · rw [if_neg a, if_neg (by omega)]
    rw [d]
    refine xC3_k S ?_ K
    unfold fQ_keep
    rw [fQ_in_s]
    simp only [if10]
    rw [if_pos h]
theorem call_62 {M : xM} (S : Sim M) (j : Int) : xC3 (fD_back 1 j M) (fQ_back 310 j) M := by
  have K : xKp M (xwr M 310 0 0) := xKp_w (xKp_rfl M) (by decide) (by decide) (by decide)
  by_cases h : 0 ≤ j ∧ j ≤ 2
  · rcases S.2.2.2.1 j h.1 (by omega) with ⟨x, y⟩ | ⟨x, y, W, Q⟩
    · have d : fD_back 1 j M = some (-6, M) := by
        unfold fD_back
        rw [if_neg (by omega), if_pos (by omega), xA_p (by omega), if_pos (show M (1 + 266) j = 0 from x)]
      rw [d]
      refine xC3_k S ?_ K
      unfold fQ_back
      rw [fQ_in_s, xwr_n _ (by omega)]
      simp only [if10]
      rw [if_neg (not_not_intro h), xA_p (by omega), if_pos (show M (310 + 12) j = 0 from y)]
    · obtain ⟨m1, c1, f1, v1⟩ := copy_s (M := M) (d := 1 + 15) (s := (1 + 265) + 3 + 11 * j) (by omega) (by
        have := W.1.2.2.1
        unfold xVw at this
        rw [show 1 + 265 + 3 + 11 * j = 269 + 11 * j + 0 by omega]
        exact this)
      have vd : ∀ a i : Int, xvd a i → xVw m1 16 a i = xVw M (269 + 11 * j) a i := fun a i ha => by
        have := v1 (xVw M (269 + 11 * j)) (fun a i _ => by unfold xVw; rw [show 1 + 265 + 3 + 11 * j + a = 269 + 11 * j + a by omega]) a i ha
        exact this
      have W1 := xWE_vd W vd
      obtain ⟨m2, c2, f2, l2, k2⟩ := settle_s (xPv_V m1 16) W1
      obtain ⟨m3, c3, f3, s3, o3⟩ := copyPrison_s (M := xwr m2 310 0 0) (w := 1 + j) (v := 0) (by omega) (by omega) (by decide) (by decide) (by omega)
      have p1 : ∀ a : Int, (a < 16 ∨ 26 < a) → m1 a = M a := fun a ha => f1 a (by omega)
      have p2 : ∀ a : Int, (a < 16 ∨ 26 < a) → (a < 39 ∨ 146 < a) → (a < 257 ∨ 258 < a) → m2 a = M a := fun a a1 a2 a3 => by rw [f2 a a2 a3, p1 a a1]
      have p3 : ∀ a : Int, a ≠ 310 → (a < 316 ∨ 321 < a) → m3 a = m2 a := fun a a1 a2 => by rw [f3 a a2, xwr_a _ a1]
      have z310 : ∀ i : Int, i ≠ 0 → m3 310 i = M 310 i := fun i hi => by rw [f3 310 (by omega), xwr_n _ (by omega), p2 310 (by omega) (by omega) (by omega)]
      have q0 : ∀ (w v : Int), xSg (xwr m2 310 0 0) m3 w v → xSg M m3 w v := fun w v s => by
        have hn : ∀ a : Int, 316 ≤ a → a ≤ 321 → (xwr m2 310 0 0) a = M a := fun a a0 a1 => by rw [xwr_a _ (by omega), p2 a (by omega) (by omega) (by omega)]
        obtain ⟨s6, s7, s8, s9, s10, s11⟩ := s
        refine ⟨?_, ?_, ?_, ?_, ?_, ?_⟩ <;> rw [← hn _ (by decide) (by decide)]
        · exact s6
        · exact s7
        · exact s8
        · exact s9
        · exact s10
        · exact s11
      refine ⟨0, m2, m3, ?_, p2 0 (by omega) (by omega) (by omega), ?_, by rw [p3 0 (by omega) (by omega), p2 0 (by omega) (by omega) (by omega)], ?_⟩
      · unfold fD_back
        rw [if_neg (by omega), if_pos (by omega), xA_p (by omega), if_neg (show ¬ M (1 + 266) j = 0 by rw [show M (1 + 266) j = 1 from x]; decide), xA_p (by omega), c1, xB_s, c2]
        rfl
      · have y2 : (xwr m2 310 0 0) (310 + 12) j = 1 := by rw [xwr_n _ (by omega), p2 _ (by omega) (by omega) (by omega)]; exact y
        unfold fQ_back
        rw [fQ_in_s, y2]
        simp only [if10]
        rw [if_neg (not_not_intro h), xA_p (by omega), if_neg (by decide), xw32_id (x := 1 + j) (by omega) (by omega), c3]
        rfl
      · refine Sim_0 (V := xVw m1 16) S (fun a ha => ?_) (z310 6 (by decide)) (z310 14 (by decide)) (z310 15 (by decide)) (fun a i a0 a1 => ?_) W1 (xQ0_vd (xQ0_sg Q W (q0 _ _ s3)) W vd) (fun w w1 _ => q0 _ _ (o3 w (by omega))) (fun _ => ⟨?_, ?_⟩)
        · rw [p3 a (by omega) (by omega), p2 a (by omega) (by omega) (by omega)]
        · unfold xVw
          rw [p3 _ (by omega) (by omega), f2 _ (by omega) (by omega)]
        · exact xLook_go W1.1 l2 (fun a a0 a1 _ => p3 a (by omega) (by omega))
        · unfold xCs at k2 ⊢
          rw [p3 (256 + 1) (by omega) (by omega), p3 (256 + 2) (by omega) (by omega)]
          exact k2
  · have d : fD_back 1 j M = some (-2, M) := by
      unfold fD_back
      by_cases a : j < 0
      · rw [if_pos a]
      · rw [if_neg a, if_neg (by omega)]
    rw [d]
    refine xC3_k S ?_ K
    unfold fQ_back
    rw [fQ_in_s]
    simp only [if10]
    rw [if_pos h]
end
