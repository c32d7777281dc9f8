/-! who can be out: the class's sets, hour by hour -/
noncomputable section
/-- who can be out ahead of hour h -/
def xcan (V : xM) : Nat → Int → Prop
  | 0, s => s = 0
  | h + 1, s => xcan V h s ∨ ∃ c s' : Int, 0 ≤ c ∧ c < V 0 0 ∧ xcan V h s' ∧ xop V c (h : Int) s' = true ∧ s = xad s' c
theorem xop_in {V : xM} {c h s : Int} (e : xop V c h s = true) (h0 : 0 ≤ c) (h1 : c < 32) : xbt s c = false := by
  have := (xop_iff.mp e).2 c h0 h1
  cases hx : xbt s c
  · rfl
  · have b := this hx
    unfold xBr at b
    simp at b
theorem xcan_rg {V : xM} (w : xWF V) : ∀ (h : Nat) (s : Int), xcan V h s → 0 ≤ s ∧ s < 2 ^ (V 0 0).toNat
  | 0, s, e => by
    have e : s = 0 := e
    subst e
    exact ⟨Int.le_refl _, Int.pow_pos (by decide)⟩
  | h + 1, s, e => by
    have hN := w.1
    rcases e with e | ⟨c, s', c0, c1, e1, -, rfl⟩
    · exact xcan_rg w h s e
    · have a := xcan_rg w h s' e1
      exact xad_rg a.1 a.2 c0 (by omega) (by omega)
theorem xcan_9 {V : xM} (w : xWF V) {h : Nat} {s : Int} (e : xcan V h s) : 0 ≤ s ∧ s < 512 := by
  have hN := w.1
  have a := xcan_rg w h s e
  have b := xpw2 (V 0 0).toNat (by omega)
  omega
theorem xcan_0 (V : xM) : ∀ h : Nat, xcan V h 0
  | 0 => rfl
  | h + 1 => Or.inl (xcan_0 V h)
theorem xBr_9 {V : xM} (w : xWF V) {c d : Int} (c0 : 0 ≤ c) (c1 : c < V 0 0) (d0 : 9 ≤ d) : xBr V c d = false := by
  have hN := w.1
  have r0 := xnb_rg (ring := V 0 3) (s := 0) c0 c1
  have r1 := xnb_rg (ring := V 0 3) (s := 1) c0 c1
  unfold xBr xN2 xnv
  simp
  exact ⟨by omega, fun h => by omega⟩
/-- the bar of a door, as a number below 512 -/
theorem bar_rg {m V : xM} {k c : Int} (hk : xKD m k V c) (w : xWF V) (c0 : 0 ≤ c) (c1 : c < V 0 0) : 0 ≤ m (k + 4) c ∧ m (k + 4) c < 512 := by
  have := xbt_lo (n := 9) hk.1.2.2 (by decide) (fun d d0 d1 => by rw [hk.2.2.2.1 d (by omega) d1]; exact xBr_9 w c0 c1 d0)
  exact this
theorem xop_bar {m V : xM} {k c h s : Int} (hk : xKD m k V c) : xop V c h s = true ↔ xOk V c h = true ∧ xand s (m (k + 4) c) = 0 := by
  rw [xop_iff, xand_0]
  constructor
  · rintro ⟨a, b⟩
    refine ⟨a, fun d d0 d1 => ?_⟩
    rintro ⟨x, y⟩
    rw [hk.2.2.2.1 d d0 d1, b d d0 d1 x] at y
    cases y
  · rintro ⟨a, b⟩
    refine ⟨a, fun d d0 d1 x => ?_⟩
    cases hy : xBr V c d
    · rfl
    · exact absurd ⟨x, by rw [hk.2.2.2.1 d d0 d1]; exact hy⟩ (b d d0 d1)
theorem wordsFor_s {N : Int} (M : xM) (h0 : 0 ≤ N) (h1 : N ≤ 9) : 1 ≤ fSets_wordsFor N M ∧ fSets_wordsFor N M ≤ 8 ∧ (2 : Int) ^ N.toNat ≤ 64 * fSets_wordsFor N M := by
  obtain ⟨s0, s1, s2, s3, s4, s5, s6, s7, s8, s9⟩ := xsh_lit
  have hc : N = 0 ∨ N = 1 ∨ N = 2 ∨ N = 3 ∨ N = 4 ∨ N = 5 ∨ N = 6 ∨ N = 7 ∨ N = 8 ∨ N = 9 := by omega
  unfold fSets_wordsFor
  rcases hc with rfl | rfl | rfl | rfl | rfl | rfl | rfl | rfl | rfl | rfl
  · rw [if_neg (by decide)]; decide
  · rw [if_neg (by decide)]; decide
  · rw [if_neg (by decide)]; decide
  · rw [if_neg (by decide)]; decide
  · rw [if_neg (by decide)]; decide
  · rw [if_neg (by decide)]; decide
  · rw [if_neg (by decide)]; decide
  · rw [if_pos (by decide), xw32_id (by decide) (by decide), show ((7 : Int) - 6) = 1 from rfl, s1]; decide
  · rw [if_pos (by decide), xw32_id (by decide) (by decide), show ((8 : Int) - 6) = 2 from rfl, s2]; decide
  · rw [if_pos (by decide), xw32_id (by decide) (by decide), show ((9 : Int) - 6) = 3 from rfl, s3]; decide
/-- one word moved: which sets come about -/
theorem move_w {c B wd st sh : Int} {P : Int → Prop} {A U : Int} (c0 : 0 ≤ c) (c1 : c < 9) (B0 : 0 ≤ B) (B1 : B < 512) (hBc : xbt B c = true) (w0 : 0 ≤ wd) (w1 : wd < 8) (e1 : 64 * st + sh = 2 ^ c.toNat) (e2 : 0 ≤ sh) (e3 : sh < 64) (e4 : 0 ≤ st) (e5 : ∀ s : Int, 0 ≤ s → s < 512 → xbt s c = false → s / 64 + st < 8 ∧ s % 64 + sh < 64)
    (hA : ∀ j : Int, 0 ≤ j → j < 64 → (xbl A j = true ↔ P (64 * wd + j))) (hU : ∀ j : Int, 0 ≤ j → j < 64 → (xbl U j = true ↔ ∀ i : Int, 0 ≤ i → i < 6 → xbt B i = true → xbt j i = false)) (hw : xand wd (B / 64) = 0) (t : Int) (t0 : 0 ≤ t) (t1 : t < 512) :
    (t / 64 = wd + st ∧ xbl (xshlL (xandL A U) sh) (t % 64) = true) ↔ ∃ s : Int, 0 ≤ s ∧ s < 512 ∧ s / 64 = wd ∧ P s ∧ xand s B = 0 ∧ t = xad s c := by
  have clr : ∀ s : Int, xand s B = 0 → xbt s c = false := fun s h => by
    have := xand_0.mp h c c0 (by omega)
    cases hx : xbt s c
    · rfl
    · exact absurd ⟨hx, hBc⟩ this
  rw [xbl_shl _ e2 e3 (by omega) (by omega), xbl_and, Bool.and_eq_true, Bool.and_eq_true, decide_eq_true_iff]
  constructor
  · rintro ⟨p, q, r1, r2⟩
    have j0 : 0 ≤ t % 64 - sh ∧ t % 64 - sh < 64 := by omega
    have sd : (64 * wd + (t % 64 - sh)) / 64 = wd ∧ (64 * wd + (t % 64 - sh)) % 64 = t % 64 - sh := by omega
    have hz : xand (64 * wd + (t % 64 - sh)) B = 0 := (xand_split (by omega) (by omega) B0 B1).mpr ⟨by rw [sd.1]; exact hw, by rw [sd.2]; exact (hU _ j0.1 j0.2).mp r2⟩
    refine ⟨64 * wd + (t % 64 - sh), by omega, by omega, sd.1, (hA _ j0.1 j0.2).mp r1, hz, ?_⟩
    rw [xad_9 (by omega) (by omega) c0 c1 (clr _ hz)]
    omega
  · rintro ⟨s, s0, s1, rfl, hp, hz, rfl⟩
    have cl := clr s hz
    have g := e5 s s0 s1 cl
    rw [xad_9 s0 s1 c0 c1 cl] at t1 ⊢
    have d1 : (s + 2 ^ c.toNat) / 64 = s / 64 + st := by omega
    have d2 : (s + 2 ^ c.toNat) % 64 = s % 64 + sh := by omega
    have z := (xand_split s0 s1 B0 B1).mp hz
    refine ⟨d1, by omega, ?_, ?_⟩
    · rw [d2, show s % 64 + sh - sh = s % 64 by omega, hA _ (by omega) (by omega), show 64 * (s / 64) + s % 64 = s by omega]
      exact hp
    · rw [d2, show s % 64 + sh - sh = s % 64 by omega]
      exact (hU _ (by omega) (by omega)).mpr z.2
theorem addNext_L {M V : xM} {r a k c st sh : Int} {P Q : Int → Prop} (w : xWF V) (hk : xKO M k V) (hP : xSt M a P) (c0 : 0 ≤ c) (c1 : c < V 0 0) (hra : r ≠ a) (hrk : k + 5 < r) (e1 : 64 * st + sh = 2 ^ c.toNat) (e2 : 0 ≤ sh) (e3 : sh < 64) (e4 : 0 ≤ st) (e4b : st ≤ 4) (e5 : ∀ s : Int, 0 ≤ s → s < 512 → xbt s c = false → s / 64 + st < 8 ∧ s % 64 + sh < 64)
    (e6 : ∀ wd : Int, 0 ≤ wd → wd < 8 → (6 ≤ c → xbt wd (c - 6) = false) → xor32 wd st = wd + st) (hPr : ∀ s, P s → 0 ≤ s ∧ s < 2 ^ (V 0 0).toNat) :
    ∀ (n g i : Nat) (m : xM), n < g → (i : Int) + n = fSets_wordsFor (V 0 0) M → xF (r + 1) (r + 1) M m → xSt m r (fun t => Q t ∨ ∃ s : Int, 0 ≤ s ∧ s < 512 ∧ s / 64 < i ∧ P s ∧ xand s (M (k + 4) c) = 0 ∧ t = xad s c) → xP (fSets_addNext_L26 g r a k c (xshr (M (k + 4) c) 6) st sh (i : Int) m) (fun m' => xF (r + 1) (r + 1) M m' ∧ xSt m' r (fun t => Q t ∨ ∃ s : Int, P s ∧ xand s (M (k + 4) c) = 0 ∧ t = xad s c))
  | _, 0, _, _, hg, _, _, _ => absurd hg (Nat.not_lt_zero _)
  | 0, g + 1, i, m, _, hi, hF, hS => by
    have hN := w.1
    have hW := wordsFor_s M hN.1 hN.2
    have f : ∀ b : Int, b < r + 1 → m b = M b := fun b hb => hF b (Or.inl hb)
    unfold fSets_addNext_L26
    rw [f k (by omega), hk.1, show fSets_wordsFor (V 0 0) m = fSets_wordsFor (V 0 0) M from rfl, if_neg (by omega)]
    refine xP_some ⟨hF, xSt_iff hS (fun t t0 t1 => ?_)⟩
    constructor
    · rintro (q | ⟨s, -, -, -, q⟩)
      · exact Or.inl q
      · exact Or.inr ⟨s, q⟩
    · rintro (q | ⟨s, q1, q2⟩)
      · exact Or.inl q
      · have := hPr s q1
        have b := xpw2 (V 0 0).toNat (by omega)
        exact Or.inr ⟨s, this.1, by omega, by omega, q1, q2⟩
  | n + 1, g + 1, i, m, hg, hi, hF, hS => by
    have hN := w.1
    have hW := wordsFor_s M hN.1 hN.2
    have f : ∀ b : Int, b ≠ r + 1 → m b = M b := fun b hb => hF b (by omega)
    have hD := hk.2.2.2 c c0 c1
    have hB := bar_rg hD w c0 c1
    have hBc : xbt (M (k + 4) c) c = true := by rw [hD.2.2.2.1 c c0 (by omega)]; unfold xBr; simp
    have hsh : xshr (M (k + 4) c) 6 = M (k + 4) c / 64 := by rw [xshr_pw _ (by decide) (by decide)]; rfl
    unfold fSets_addNext_L26
    rw [f k (by omega), hk.1, show fSets_wordsFor (V 0 0) m = fSets_wordsFor (V 0 0) M from rfl, if_pos (by omega), hsh, xw32_id (x := (i : Int) + 1) (by omega) (by omega), f (a + 1) (by omega), f (k + 5) (by omega)]
    by_cases hz : xand (i : Int) (M (k + 4) c / 64) = 0
    · have h6 : xor32 (i : Int) st = i + st := e6 i (by omega) (by omega) (fun h => by
        have := xand_0.mp hz (c - 6) (by omega) (by omega)
        rw [xbt_high _ (by omega) (by omega), show c - 6 + 6 = c by omega, hBc] at this
        cases hx : xbt (i : Int) (c - 6)
        · rfl
        · exact absurd ⟨hx, rfl⟩ this)
      have hlt : (i : Int) + st < 8 := by
        have := (e5 (64 * i) (by omega) (by omega) ?_).1
        · omega
        · by_cases h : 6 ≤ c
          · have := xand_0.mp hz (c - 6) (by omega) (by omega)
            rw [xbt_high _ (by omega) (by omega), show c - 6 + 6 = c by omega, hBc] at this
            have e := xbt_high (64 * (i : Int)) (d := c - 6) (by omega) (by omega)
            rw [show c - 6 + 6 = c by omega, show 64 * (i : Int) / 64 = i by omega] at e
            cases hx : xbt (i : Int) (c - 6)
            · rw [← e]; exact hx
            · exact absurd ⟨hx, rfl⟩ this
          · rw [← xbt_low _ c0 (by omega), show 64 * (i : Int) % 64 = 0 by omega, xbt_0]
      rw [if_pos hz, h6, xA_p (by omega), xA_p (by omega), xA_p (by omega), xA_p (by omega), ← hsh]
      refine addNext_L w hk hP c0 c1 hra hrk e1 e2 e3 e4 e4b e5 e6 hPr n g (i + 1) _ (by omega) (by omega) (xwr_F hF (by omega) (by omega)) (fun t t0 t1 => ?_)
      have mv := move_w (c := c) (B := M (k + 4) c) (wd := i) (st := st) (sh := sh) (P := P) (A := M (a + 1) i) (U := M (k + 5) c) c0 (by omega) hB.1 hB.2 hBc (by omega) (by omega) e1 e2 e3 e4 e5 (fun j j0 j1 => by
        have := hP (64 * i + j) (by omega) (by omega)
        rwa [show (64 * (i : Int) + j) / 64 = i by omega, show (64 * (i : Int) + j) % 64 = j by omega] at this) hD.2.2.2.2 hz t t0 t1
      have old := hS t t0 t1
      rw [xwr_at]
      by_cases e : t / 64 = (i : Int) + st
      · rw [if_pos ⟨rfl, e⟩, xbl_or, Bool.or_eq_true, ← e, old]
        constructor
        · rintro ((q | ⟨s, s0, s1, s2, q⟩) | q)
          · exact Or.inl q
          · exact Or.inr ⟨s, s0, s1, by omega, q⟩
          · obtain ⟨s, s0, s1, s2, q⟩ := mv.mp ⟨e, q⟩
            exact Or.inr ⟨s, s0, s1, by omega, q⟩
        · rintro (q | ⟨s, s0, s1, s2, q⟩)
          · exact Or.inl (Or.inl q)
          · by_cases e7 : s / 64 = i
            · exact Or.inr (mv.mpr ⟨s, s0, s1, e7, q⟩).2
            · exact Or.inl (Or.inr ⟨s, s0, s1, by omega, q⟩)
      · rw [if_neg (fun x => e x.2), old]
        constructor
        · rintro (q | ⟨s, s0, s1, s2, q⟩)
          · exact Or.inl q
          · exact Or.inr ⟨s, s0, s1, by omega, q⟩
        · rintro (q | ⟨s, s0, s1, s2, q⟩)
          · exact Or.inl q
          · by_cases e7 : s / 64 = i
            · exact absurd (mv.mpr ⟨s, s0, s1, e7, q⟩).1 e
            · exact Or.inr ⟨s, s0, s1, by omega, q⟩
    · rw [if_neg hz, ← hsh]
      refine addNext_L w hk hP c0 c1 hra hrk e1 e2 e3 e4 e4b e5 e6 hPr n g (i + 1) m (by omega) (by omega) hF (xSt_iff hS (fun t t0 t1 => ?_))
      constructor
      · rintro (q | ⟨s, s0, s1, s2, q⟩)
        · exact Or.inl q
        · exact Or.inr ⟨s, s0, s1, by omega, q⟩
      · rintro (q | ⟨s, s0, s1, s2, q1, q2, q3⟩)
        · exact Or.inl q
        · by_cases e7 : s / 64 = i
          · have := ((xand_split s0 s1 hB.1 hB.2).mp q2).1
            rw [e7] at this
            exact absurd this hz
          · exact Or.inr ⟨s, s0, s1, by omega, q1, q2, q3⟩
theorem addNext_s {M V : xM} {r a k c : Int} {P Q : Int → Prop} (w : xWF V) (hk : xKO M k V) (hP : xSt M a P) (hQ : xSt M r Q) (c0 : 0 ≤ c) (c1 : c < V 0 0) (hra : r ≠ a) (hrk : k + 5 < r) (hPr : ∀ s, P s → 0 ≤ s ∧ s < 2 ^ (V 0 0).toNat) : xP (fSets_addNext r a k c M) (fun m' => xF (r + 1) (r + 1) M m' ∧ xSt m' r (fun t => Q t ∨ ∃ s : Int, P s ∧ xand s (M (k + 4) c) = 0 ∧ t = xad s c)) := by
  have hN := w.1
  obtain ⟨st, sh, x1, x2, e1, e2, e3, e4, e4b, e5, e6⟩ := xmv c M c0 (by omega)
  have hW := wordsFor_s M hN.1 hN.2
  unfold fSets_addNext
  rw [xA_p (by omega), x1, x2]
  refine addNext_L w hk hP c0 c1 hra hrk e1 e2 e3 e4 e4b e5 e6 hPr (fSets_wordsFor (V 0 0) M).toNat 20001 0 M (by omega) (by omega) (xF_rfl _ _ _) (xSt_iff hQ (fun t t0 t1 => ?_))
  constructor
  · exact Or.inl
  · rintro (q | ⟨s, s0, s1, s2, q⟩)
    · exact q
    · exact absurd s2 (by omega)
/-- the set of sets of hour h of an outlook -/
def rr (x h : Int) : Int := x + 7 + 2 + 4 * h
theorem explore_L59 {V : xM} {x : Int} (w : xWF V) {K : Int → Int → xM → Option xM} {Q : xM → Prop} {h : Nat} (hh : (h : Int) < V 0 1) {M : xM}
    (hK : ∀ m : xM, xF (rr x ((h : Int) + 1) + 1) (rr x ((h : Int) + 1) + 1) M m → xSt m (rr x ((h : Int) + 1)) (xcan V (h + 1)) → xP (K x ((h : Int) + 1) m) Q) (hk : xKO M (x + 1) V) (hr : xSt M (rr x h) (xcan V h)) :
    ∀ (n g i : Nat) (m : xM), n < g → (i : Int) + n = V 0 0 → xF (rr x ((h : Int) + 1) + 1) (rr x ((h : Int) + 1) + 1) M m → xSt m (rr x ((h : Int) + 1)) (fun s => xcan V h s ∨ ∃ c s' : Int, 0 ≤ c ∧ c < i ∧ xcan V h s' ∧ xop V c (h : Int) s' = true ∧ s = xad s' c) → xP (fOutlook_explore_L59 K g x (h : Int) (i : Int) m) Q
  | _, 0, _, _, hg, _, _, _ => absurd hg (Nat.not_lt_zero _)
  | 0, g + 1, i, m, _, hi, hF, hS => by
    have hN := w.1
    have hH := w.2.1
    have f : ∀ b : Int, b < x + 9 → m b = M b := fun b hb => hF b (by unfold rr; omega)
    unfold fOutlook_explore_L59
    rw [f (x + 1) (by omega), hk.1, if_neg (by omega), xw32_id (by omega) (by omega)]
    refine hK m hF (xSt_iff hS (fun s s0 s1 => ?_))
    rw [show (i : Int) = V 0 0 by omega]
    rfl
  | n + 1, g + 1, i, m, hg, hi, hF, hS => by
    have hN := w.1
    have hH := w.2.1
    have f : ∀ b : Int, b < x + 9 → m b = M b := fun b hb => hF b (by unfold rr; omega)
    have hk' : xKO m (x + 1) V := xKO_go hk (fun a a0 a1 => f a (by omega))
    have hD := hk'.2.2.2 i (by omega) (by omega)
    unfold fOutlook_explore_L59
    rw [f (x + 1) (by omega), hk.1, if_pos (by omega), xA_p (by omega), fD_bit_s _ m (by omega) (by omega), hD.2.1 h (by omega) (by omega), decide_eq_true hh, Bool.true_and, xw32_id (x := (i : Int) + 1) (by omega) (by omega), xw32_id (x := (h : Int) + 1) (by omega) (by omega)]
    by_cases ho : xOk V i h = true
    · rw [if_pos ((xif10 _).mpr ho), xA_p (by omega), xA_p (by omega)]
      refine xP_B (addNext_s (r := rr x ((h : Int) + 1)) (a := rr x h) (k := x + 1) (c := i) w hk' (xSt_go hr (hF _ (by unfold rr; omega))) hS (by omega) (by omega) (by unfold rr; omega) (by unfold rr; omega) (fun s e => xcan_rg w h s e)) ?_
      rintro m' ⟨hF', hS'⟩
      refine explore_L59 w hh hK hk hr n g (i + 1) m' (by omega) (by omega) (xF_tr hF hF') (xSt_iff hS' (fun s s0 s1 => ?_))
      constructor
      · rintro ((q | ⟨c, s', c0, c1, q⟩) | ⟨s', q1, q2, q3⟩)
        · exact Or.inl q
        · exact Or.inr ⟨c, s', c0, by omega, q⟩
        · exact Or.inr ⟨i, s', by omega, by omega, q1, (xop_bar hD).mpr ⟨ho, q2⟩, q3⟩
      · rintro (q | ⟨c, s', c0, c1, q1, q2, q3⟩)
        · exact Or.inl (Or.inl q)
        · by_cases e : c = i
          · subst e
            exact Or.inr ⟨s', q1, ((xop_bar hD).mp q2).2, q3⟩
          · exact Or.inl (Or.inr ⟨c, s', c0, by omega, q1, q2, q3⟩)
    · rw [if_neg (fun e => ho ((xif10 _).mp e))]
      refine explore_L59 w hh hK hk hr n g (i + 1) m (by omega) (by omega) hF (xSt_iff hS (fun s s0 s1 => ?_))
      constructor
      · rintro (q | ⟨c, s', c0, c1, q⟩)
        · exact Or.inl q
        · exact Or.inr ⟨c, s', c0, by omega, q⟩
      · rintro (q | ⟨c, s', c0, c1, q1, q2, q3⟩)
        · exact Or.inl q
        · by_cases e : c = i
          · subst e
            exact absurd (xop_iff.mp q2).1 ho
          · exact Or.inr ⟨c, s', c0, by omega, q1, q2, q3⟩
theorem explore_L29 {V M : xM} {x : Int} (w : xWF V) (hk : xKO M (x + 1) V) : ∀ (n g i : Nat) (m : xM), n < g → (i : Int) + n = V 0 1 → xF (x + 8) (x + 108) M m → (∀ h : Nat, h ≤ i → xSt m (rr x h) (xcan V h)) → xP (fOutlook_explore_L29 g x (i : Int) m) (fun m' => xF (x + 8) (x + 108) M m' ∧ ∀ h : Nat, (h : Int) ≤ V 0 1 → xSt m' (rr x h) (xcan V h))
  | _, 0, _, _, hg, _, _, _ => absurd hg (Nat.not_lt_zero _)
  | 0, g + 1, i, m, _, hi, hF, hS => by
    have f : ∀ b : Int, b < x + 8 → m b = M b := fun b hb => hF b (Or.inl hb)
    unfold fOutlook_explore_L29
    rw [f (x + 1) (by omega), hk.2.1, if_neg (by omega)]
    exact xP_some ⟨hF, fun h hh => hS h (by omega)⟩
  | n + 1, g + 1, i, m, hg, hi, hF, hS => by
    have hN := w.1
    have hH := w.2.1
    have f : ∀ b : Int, b < x + 8 → m b = M b := fun b hb => hF b (Or.inl hb)
    unfold fOutlook_explore_L29
    rw [f (x + 1) (by omega), hk.2.1, if_pos (by omega), xw32_id (x := (i : Int) + 1) (by omega) (by omega), xA_p (by omega), xA_p (by omega)]
    have cp := copySet_s (a := rr x ((i : Int) + 1)) (hS i (Nat.le_refl _))
    have hF1 : xF (x + 8) (x + 108) M (fSets_copy (rr x ((i : Int) + 1)) (rr x i) m) := xF_tr hF (xF_w cp.1 (by unfold rr; omega) (by unfold rr; omega))
    have hS1 : ∀ h : Nat, h ≤ i → xSt (fSets_copy (rr x ((i : Int) + 1)) (rr x i) m) (rr x h) (xcan V h) := fun h hh => xSt_go (hS h hh) (cp.1 _ (by unfold rr; omega))
    refine explore_L59 (M := fSets_copy (rr x ((i : Int) + 1)) (rr x i) m) w (show (i : Int) < V 0 1 by omega) (fun m' hF' hS' => ?_) (xKO_go hk (fun a a0 a1 => hF1 a (by omega))) (hS1 i (Nat.le_refl _)) (V 0 0).toNat 20001 0 _ (by omega) (by omega) (xF_rfl _ _ _) (xSt_iff cp.2 (fun s s0 s1 => ?_))
    · refine explore_L29 w hk n g (i + 1) m' (by omega) (by omega) (xF_tr hF1 (xF_w hF' (by unfold rr; omega) (by unfold rr; omega))) (fun h hh => ?_)
      by_cases e : h = i + 1
      · subst e; exact hS'
      · exact xSt_go (hS1 h (by omega)) (hF' _ (by unfold rr; omega))
    · constructor
      · exact Or.inl
      · rintro (q | ⟨c, s', c0, c1, q⟩)
        · exact q
        · exact absurd c1 (by omega)
/-- what explore leaves: keys, and who can be out ahead of each hour -/
def xLook (m : xM) (x : Int) (V : xM) : Prop := xKO m (x + 1) V ∧ ∀ h : Nat, (h : Int) ≤ V 0 1 → xSt m (rr x h) (xcan V h)
theorem xLook_go {M m V : xM} {x : Int} (w : xWF V) (h : xLook M x V) (e : ∀ a : Int, x ≤ a → a ≤ x + 108 → a % 4 ≠ (x + 8 + 3 + 1) % 4 ∨ a ≤ x + 6 → m a = M a) : xLook m x V := by
  have hH := w.2.1
  refine ⟨xKO_go h.1 (fun a a0 a1 => e a (by omega) (by omega) (by omega)), fun i hi => xSt_go (h.2 i hi) (e _ (by unfold rr; omega) (by unfold rr; omega) (by unfold rr; omega))⟩
theorem explore_s {M V : xM} {x p : Int} (hv : xPv M p V) (w : xWF V) (hpk : p + 10 < x + 1) : xP (fOutlook_explore x p M) (fun m => xF (x + 1) (x + 108) M m ∧ xLook m x V) := by
  have hN := w.1
  have hH := w.2.1
  unfold fOutlook_explore
  refine xP_B (keys_s hv w hpk) ?_
  rintro m1 ⟨f1, k1⟩
  refine xP_B (clear_s (rr x 0) m1) ?_
  rintro m2 ⟨f2, s2⟩
  refine xP_B (add_s s2 (s := 0) (by decide) (by decide)) ?_
  rintro m3 ⟨f3, s3⟩
  have f : xF (x + 8) (x + 108) m1 m3 := xF_tr (xF_w f2 (by unfold rr; omega) (by unfold rr; omega)) (xF_w f3 (by omega) (by omega))
  have k3 : xKO m3 (x + 1) V := xKO_go k1 (fun a a0 a1 => f a (by omega))
  refine xP_mono (explore_L29 (M := m3) w k3 (V 0 1).toNat 20001 0 m3 (by omega) (by omega) (xF_rfl _ _ _) (fun h hh => ?_)) ?_
  · have e : h = 0 := by omega
    subst e
    exact xSt_iff s3 (fun s _ _ => by show (False ∨ s = 0) ↔ s = 0; simp)
  · rintro m ⟨hF, hS⟩
    refine ⟨xF_tr (xF_w f1 (by omega) (by omega)) (xF_tr (xF_w f (by omega) (by omega)) (xF_w hF (by omega) (by omega))), xKO_go k3 (fun a a0 a1 => hF a (by omega)), hS⟩
end
