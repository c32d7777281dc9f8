/-! the sets before: addPrevious -/
noncomputable section
theorem prev_w {c B wd st sh : Int} {P : Int → Prop} {A U : Int} (c0 : 0 ≤ c) (c1 : c < 9) (B0 : 0 ≤ B) (B1 : B < 512) (hBc : xbt B c = true) (w0 : 0 ≤ wd) (w1 : wd < 8) (e1 : 64 * st + sh = 2 ^ c.toNat) (e2 : 0 ≤ sh) (e3 : sh < 64) (e4 : 0 ≤ st) (e5 : ∀ s : Int, 0 ≤ s → s < 512 → xbt s c = false → s / 64 + st < 8 ∧ s % 64 + sh < 64)
    (hA : ∀ j : Int, 0 ≤ j → j < 64 → (xbl A j = true ↔ P (64 * (wd + st) + j))) (hU : ∀ j : Int, 0 ≤ j → j < 64 → (xbl U j = true ↔ ∀ i : Int, 0 ≤ i → i < 6 → xbt B i = true → xbt j i = false)) (hw : xand wd (B / 64) = 0) (t : Int) (t0 : 0 ≤ t) (t1 : t < 512) (ht : t / 64 = wd) :
    xbl (xandL (xushrL A sh) U) (t % 64) = true ↔ xand t B = 0 ∧ P (xad t c) := by
  have clr : ∀ s : Int, xand s B = 0 → xbt s c = false := fun s h => by
    have := xand_0.mp h c c0 (by omega)
    cases hx : xbt s c
    · rfl
    · exact absurd ⟨hx, hBc⟩ this
  have key : xand t B = 0 → (xbl (xushrL A sh) (t % 64) = true ↔ P (xad t c)) := fun hz => by
    have g := e5 t t0 t1 (clr _ hz)
    rw [xbl_ushr _ e2 e3 (by omega), hA _ (by omega) (by omega), xad_9 t0 t1 c0 c1 (clr _ hz), show 64 * (wd + st) + (t % 64 + sh) = t + 2 ^ c.toNat by omega]
  have hu : xbl U (t % 64) = true ↔ xand t B = 0 := by
    rw [hU _ (by omega) (by omega)]
    constructor
    · intro h
      exact (xand_split t0 t1 B0 B1).mpr ⟨by rw [ht]; exact hw, h⟩
    · intro h
      exact ((xand_split t0 t1 B0 B1).mp h).2
  rw [xbl_and, Bool.and_eq_true, hu]
  constructor
  · rintro ⟨a, b⟩
    exact ⟨b, (key b).mp a⟩
  · rintro ⟨a, b⟩
    exact ⟨(key a).mpr b, a⟩
theorem addPrev_L {M V : xM} {r a k c st sh : Int} {P Q : Int → Prop} (w : xWF V) (hk : xKO M k V) (hP : xSt M a P) (c0 : 0 ≤ c) (c1 : c < V 0 0) (hra : r ≠ a) (hrk : k + 5 < r) (e1 : 64 * st + sh = 2 ^ c.toNat) (e2 : 0 ≤ sh) (e3 : sh < 64) (e4 : 0 ≤ st) (e4b : st ≤ 4) (e5 : ∀ s : Int, 0 ≤ s → s < 512 → xbt s c = false → s / 64 + st < 8 ∧ s % 64 + sh < 64)
    (e6 : ∀ wd : Int, 0 ≤ wd → wd < 8 → (6 ≤ c → xbt wd (c - 6) = false) → xor32 wd st = wd + st) (hPr : ∀ s, P s → 0 ≤ s ∧ s < 2 ^ (V 0 0).toNat) :
    ∀ (n g i : Nat) (m : xM), n < g → (i : Int) + n = fSets_wordsFor (V 0 0) M → xF (r + 1) (r + 1) M m → xSt m r (fun t => Q t ∨ (t / 64 < i ∧ xand t (M (k + 4) c) = 0 ∧ P (xad t c))) → xP (fSets_addPrevious_L26 g r a k c (xshr (M (k + 4) c) 6) st sh (i : Int) m) (fun m' => xF (r + 1) (r + 1) M m' ∧ xSt m' r (fun t => Q t ∨ (xand t (M (k + 4) c) = 0 ∧ P (xad t c))))
  | _, 0, _, _, hg, _, _, _ => absurd hg (Nat.not_lt_zero _)
  | 0, g + 1, i, m, _, hi, hF, hS => by
    have hN := w.1
    have hW := wordsFor_s M hN.1 hN.2
    have hD := hk.2.2.2 c c0 c1
    have hBc : xbt (M (k + 4) c) c = true := by rw [hD.2.2.2.1 c c0 (by omega)]; unfold xBr; simp
    have f : ∀ b : Int, b < r + 1 → m b = M b := fun b hb => hF b (Or.inl hb)
    unfold fSets_addPrevious_L26
    rw [f k (by omega), hk.1, show fSets_wordsFor (V 0 0) m = fSets_wordsFor (V 0 0) M from rfl, if_neg (by omega)]
    refine xP_some ⟨hF, xSt_iff hS (fun t t0 t1 => ?_)⟩
    constructor
    · rintro (q | ⟨-, q⟩)
      · exact Or.inl q
      · exact Or.inr q
    · rintro (q | ⟨q1, q2⟩)
      · exact Or.inl q
      · have cl : xbt t c = false := by
          have := xand_0.mp q1 c c0 (by omega)
          cases hx : xbt t c
          · rfl
          · exact absurd ⟨hx, hBc⟩ this
        have := hPr _ q2
        rw [xad_9 t0 t1 c0 (by omega) cl] at this
        have b := xpw2 (V 0 0).toNat (by omega)
        exact Or.inr ⟨by omega, q1, q2⟩
  | n + 1, g + 1, i, m, hg, hi, hF, hS => by
    have hN := w.1
    have hW := wordsFor_s M hN.1 hN.2
    have f : ∀ b : Int, b ≠ r + 1 → m b = M b := fun b hb => hF b (by omega)
    have hD := hk.2.2.2 c c0 c1
    have hB := bar_rg hD w c0 c1
    have hBc : xbt (M (k + 4) c) c = true := by rw [hD.2.2.2.1 c c0 (by omega)]; unfold xBr; simp
    have hsh : xshr (M (k + 4) c) 6 = M (k + 4) c / 64 := by rw [xshr_pw _ (by decide) (by decide)]; rfl
    unfold fSets_addPrevious_L26
    rw [f k (by omega), hk.1, show fSets_wordsFor (V 0 0) m = fSets_wordsFor (V 0 0) M from rfl, if_pos (by omega), hsh, xw32_id (x := (i : Int) + 1) (by omega) (by omega), f (a + 1) (by omega), f (k + 5) (by omega)]
    by_cases hz : xand (i : Int) (M (k + 4) c / 64) = 0
    · have h6 : xor32 (i : Int) st = i + st := e6 i (by omega) (by omega) (fun h => by
        have := xand_0.mp hz (c - 6) (by omega) (by omega)
        rw [xbt_high _ (by omega) (by omega), show c - 6 + 6 = c by omega, hBc] at this
        cases hx : xbt (i : Int) (c - 6)
        · rfl
        · exact absurd ⟨hx, rfl⟩ this)
      have hlt : (i : Int) + st < 8 := by
        have := (e5 (64 * i) (by omega) (by omega) ?_).1
        · omega
        · by_cases h : 6 ≤ c
          · have := xand_0.mp hz (c - 6) (by omega) (by omega)
            rw [xbt_high _ (by omega) (by omega), show c - 6 + 6 = c by omega, hBc] at this
            have e := xbt_high (64 * (i : Int)) (d := c - 6) (by omega) (by omega)
            rw [show c - 6 + 6 = c by omega, show 64 * (i : Int) / 64 = i by omega] at e
            cases hx : xbt (i : Int) (c - 6)
            · rw [← e]; exact hx
            · exact absurd ⟨hx, rfl⟩ this
          · rw [← xbt_low _ c0 (by omega), show 64 * (i : Int) % 64 = 0 by omega, xbt_0]
      rw [if_pos hz, h6, xA_p (by omega), xA_p (by omega), xA_p (by omega), xA_p (by omega), ← hsh]
      refine addPrev_L w hk hP c0 c1 hra hrk e1 e2 e3 e4 e4b e5 e6 hPr n g (i + 1) _ (by omega) (by omega) (xwr_F hF (by omega) (by omega)) (fun t t0 t1 => ?_)
      have old := hS t t0 t1
      rw [xwr_at]
      by_cases e : t / 64 = (i : Int)
      · have mv := prev_w (c := c) (B := M (k + 4) c) (wd := i) (st := st) (sh := sh) (P := P) (A := M (a + 1) ((i : Int) + st)) (U := M (k + 5) c) c0 (by omega) hB.1 hB.2 hBc (by omega) (by omega) e1 e2 e3 e4 e5 (fun j j0 j1 => by
          have := hP (64 * ((i : Int) + st) + j) (by omega) (by omega)
          rwa [show (64 * ((i : Int) + st) + j) / 64 = i + st by omega, show (64 * ((i : Int) + st) + j) % 64 = j by omega] at this) hD.2.2.2.2 hz t t0 t1 e
        rw [if_pos ⟨rfl, e⟩, xbl_or, Bool.or_eq_true, ← e, old, e, mv]
        constructor
        · rintro ((q | ⟨s, q⟩) | q)
          · exact Or.inl q
          · exact Or.inr ⟨by omega, q⟩
          · exact Or.inr ⟨by omega, q⟩
        · rintro (q | ⟨s, q⟩)
          · exact Or.inl (Or.inl q)
          · exact Or.inr q
      · rw [if_neg (fun x => e x.2), old]
        constructor
        · rintro (q | ⟨s, q⟩)
          · exact Or.inl q
          · exact Or.inr ⟨by omega, q⟩
        · rintro (q | ⟨s, q⟩)
          · exact Or.inl q
          · exact Or.inr ⟨by omega, q⟩
    · rw [if_neg hz, ← hsh]
      refine addPrev_L w hk hP c0 c1 hra hrk e1 e2 e3 e4 e4b e5 e6 hPr n g (i + 1) m (by omega) (by omega) hF (xSt_iff hS (fun t t0 t1 => ?_))
      constructor
      · rintro (q | ⟨s, q⟩)
        · exact Or.inl q
        · exact Or.inr ⟨by omega, q⟩
      · rintro (q | ⟨s, q1, q2⟩)
        · exact Or.inl q
        · by_cases e7 : t / 64 = i
          · have := ((xand_split t0 t1 hB.1 hB.2).mp q1).1
            rw [e7] at this
            exact absurd this hz
          · exact Or.inr ⟨by omega, q1, q2⟩
theorem addPrev_s {M V : xM} {r a k c : Int} {P Q : Int → Prop} (w : xWF V) (hk : xKO M k V) (hP : xSt M a P) (hQ : xSt M r Q) (c0 : 0 ≤ c) (c1 : c < V 0 0) (hra : r ≠ a) (hrk : k + 5 < r) (hPr : ∀ s, P s → 0 ≤ s ∧ s < 2 ^ (V 0 0).toNat) : xP (fSets_addPrevious r a k c M) (fun m' => xF (r + 1) (r + 1) M m' ∧ xSt m' r (fun t => Q t ∨ (xand t (M (k + 4) c) = 0 ∧ P (xad t c)))) := by
  have hN := w.1
  obtain ⟨st, sh, x1, x2, e1, e2, e3, e4, e4b, e5, e6⟩ := xmv c M c0 (by omega)
  have hW := wordsFor_s M hN.1 hN.2
  unfold fSets_addPrevious
  rw [xA_p (by omega), x1, x2]
  refine addPrev_L w hk hP c0 c1 hra hrk e1 e2 e3 e4 e4b e5 e6 hPr (fSets_wordsFor (V 0 0) M).toNat 20001 0 M (by omega) (by omega) (xF_rfl _ _ _) (xSt_iff hQ (fun t t0 t1 => ?_))
  constructor
  · exact Or.inl
  · rintro (q | ⟨s, q⟩)
    · exact q
    · exact absurd s (by omega)
end
