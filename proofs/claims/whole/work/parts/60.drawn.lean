/-! sleeps drawn -/
noncomputable section
def xlq (x : Int) : Nat → Int
  | 0 => x
  | k + 1 => xrem (xw64 ((xw64 (1103515245 * (xlq x k))) + 12345)) 2147483648
/-- whether a draw, the k-th from 0, is below the odds -/
def xdr (x od : Int) (k : Nat) : Bool := decide (xcmpL (xrem (xdivL (xlq x (k + 1)) 65536) 100) od < 0)
/-- whether by draw the man of cell c sleeps in hour h -/
def xdw (V : xM) (x od h c : Int) : Bool := xdr x od (h.toNat * (V 0 0).toNat + c.toNat)
def xDw (V : xM) (x od : Int) (U : xM) : Prop := (∀ a i : Int, a ≠ 5 → U a i = V a i) ∧ ∀ c : Int, 0 ≤ c → c < 9 → x32 (U 5 c) ∧ ∀ h : Int, 0 ≤ h → h < 32 → xbt (U 5 c) h = (xbt (V 5 c) h || (decide (c < V 0 0 ∧ h < V 0 1) && xdw V x od h c))
/-- somebody sleeps by draw alone -/
def xda (V : xM) (x od : Int) (h j : Int) : Bool := xdc (∃ c : Int, 0 ≤ c ∧ c < j ∧ xdw V x od h c = true ∧ xbt (V 5 c) h = false)
theorem xda_s {V : xM} {x od h : Int} (j : Nat) : xda V x od h ((j : Int) + 1) = (xda V x od h j || (xdw V x od h j && !xbt (V 5 j) h)) := by
  apply Bool.eq_iff_iff.mpr
  unfold xda
  rw [Bool.or_eq_true, xdc_t, xdc_t, Bool.and_eq_true, Bool.not_eq_true']
  constructor
  · rintro ⟨c, c0, c1, c2⟩
    by_cases e : c = j
    · rw [e] at c2; exact Or.inr c2
    · exact Or.inl ⟨c, c0, by omega, c2⟩
  · rintro (⟨c, c0, c1, c2⟩ | e)
    · exact ⟨c, c0, by omega, c2⟩
    · exact ⟨j, by omega, by omega, e⟩
theorem xda_0 {V : xM} {x od h : Int} : xda V x od h 0 = false := xdc_f.mpr (fun ⟨c, c0, c1, _⟩ => by omega)
def xdn (V : xM) (x od : Int) (h : Nat) : Int := if xda V x od h (V 0 0) = true then 1 else 0
/-- the draft while sleeps are drawn: i hours, and j cells of hour i, are done -/
def xDp (V : xM) (x od : Int) (i j : Int) (U : xM) : Prop := (∀ a b : Int, a ≠ 5 → U a b = V a b) ∧ ∀ c : Int, 0 ≤ c → c < 9 → x32 (U 5 c) ∧ ∀ h : Int, 0 ≤ h → h < 32 → xbt (U 5 c) h = (xbt (V 5 c) h || (decide (c < V 0 0 ∧ h < V 0 1 ∧ (h < i ∨ (h = i ∧ c < j))) && xdw V x od h c))
theorem xDp_next {V : xM} {x od : Int} {i : Nat} {U : xM} (h : xDp V x od i (V 0 0) U) : xDp V x od ((i : Int) + 1) 0 U := by
  refine ⟨h.1, fun c c0 c1 => ⟨(h.2 c c0 c1).1, fun k k0 k1 => ?_⟩⟩
  rw [(h.2 c c0 c1).2 k k0 k1]
  congr 2
  apply decide_eq_decide.mpr
  omega
theorem drawD_in {V M : xM} {p x od : Int} {i : Nat} (w : xWF V) (hi : (i : Int) < V 0 1) {K : Int → Int → Int → Int → Int → xM → Option (Int × xM)} {R : Int × xM → Prop} {cnt : Int} (hcnt : 0 ≤ cnt ∧ cnt ≤ i)
    (hK : ∀ (m U : xM), xF p (p + 10) M m → xPv m p U → xDp V x od ((i : Int) + 1) 0 U → xP (K p od (cnt + xdn V x od i) (xlq x ((i + 1) * (V 0 0).toNat)) ((i : Int) + 1) m) R) : ∀ (n g j : Nat) (m U : xM), n < g → (j : Int) + n = V 0 0 → xF p (p + 10) M m → xPv m p U → xDp V x od i j U → xP (fPrison_drawSleeps_L24 K g p od cnt (xlq x (i * (V 0 0).toNat + j)) (i : Int) (if xda V x od i j = true then 1 else 0) (j : Int) m) R
  | _, 0, _, _, _, hg, _, _, _, _ => absurd hg (Nat.not_lt_zero _)
  | 0, g + 1, j, m, U, _, hj, hF, hv, hU => by
    have hN := w.1
    have hH := w.2.1
    have u0 : U 0 0 = V 0 0 := hU.1 0 0 (by decide)
    have ej : (j : Int) = V 0 0 := by omega
    have hD := xDp_next (h := by rw [ej] at hU; exact hU)
    have el : i * (V 0 0).toNat + j = (i + 1) * (V 0 0).toNat := by rw [Nat.succ_mul]; omega
    unfold fPrison_drawSleeps_L24
    rw [xPv_0 hv 0 (by decide) (by decide), u0, if_neg (by omega), xw32_id (x := (i : Int) + 1) (by omega) (by omega), el, xw32_id (x := cnt + 0) (by omega) (by omega), xw32_id (x := cnt + 1) (by omega) (by omega)]
    have := hK m U hF hv hD
    unfold xdn at this
    rw [ej]
    by_cases e : xda V x od i (V 0 0) = true
    · rw [if_pos e] at this
      rw [if_neg (by rw [if_pos e]; decide)]
      exact this
    · rw [if_neg e] at this
      rw [if_pos (by rw [if_neg e])]
      exact this
  | n + 1, g + 1, j, m, U, hg, hj, hF, hv, hU => by
    have hN := w.1
    have hH := w.2.1
    have u0 : U 0 0 = V 0 0 := hU.1 0 0 (by decide)
    have es := xda_s (V := V) (x := x) (od := od) (h := (i : Int)) j
    have u5 := hU.2 j (by omega) (by omega)
    have b := u5.2 i (by omega) (by omega)
    rw [decide_eq_false (show ¬ ((j : Int) < V 0 0 ∧ (i : Int) < V 0 1 ∧ ((i : Int) < i ∨ ((i : Int) = i ∧ (j : Int) < j))) by omega), Bool.false_and, Bool.or_false] at b
    have ew : xdw V x od i j = xdr x od (i * (V 0 0).toNat + j) := by unfold xdw; rw [Int.toNat_natCast, Int.toNat_natCast]
    have same : ∀ U' : xM, (∀ a b : Int, a ≠ 5 → U' a b = V a b) → (∀ c : Int, c ≠ j → U' 5 c = U 5 c) → x32 (U' 5 j) → (∀ h : Int, 0 ≤ h → h < 32 → xbt (U' 5 j) h = (xbt (U 5 j) h || (decide (h = i) && xdw V x od i j))) → xDp V x od i ((j : Int) + 1) U' := by
      intro U' a1 a2 a3 a4
      refine ⟨a1, fun c c0 c1 => ?_⟩
      by_cases ec : c = j
      · rw [ec]
        refine ⟨a3, fun h h0 h1 => ?_⟩
        rw [a4 h h0 h1, u5.2 h h0 h1]
        by_cases eh : h = i
        · rw [eh, decide_eq_false (show ¬ ((j : Int) < V 0 0 ∧ (i : Int) < V 0 1 ∧ ((i : Int) < i ∨ ((i : Int) = i ∧ (j : Int) < j))) by omega), decide_eq_true (show (j : Int) < V 0 0 ∧ (i : Int) < V 0 1 ∧ ((i : Int) < i ∨ ((i : Int) = i ∧ (j : Int) < (j : Int) + 1)) by omega)]
          simp
        · have : decide ((j : Int) < V 0 0 ∧ h < V 0 1 ∧ (h < i ∨ (h = i ∧ (j : Int) < (j : Int) + 1))) = decide ((j : Int) < V 0 0 ∧ h < V 0 1 ∧ (h < i ∨ (h = i ∧ (j : Int) < j))) := by apply decide_eq_decide.mpr; omega
          rw [this]
          simp [eh]
      · rw [a2 c ec]
        refine ⟨(hU.2 c c0 c1).1, fun h h0 h1 => ?_⟩
        rw [(hU.2 c c0 c1).2 h h0 h1]
        congr 2
        apply decide_eq_decide.mpr
        omega
    rw [fPrison_drawSleeps_L24]
    show xP (if (j : Int) < m p 0 then (if xcmpL (xrem (xdivL (xlq x (i * (V 0 0).toNat + j + 1)) 65536) 100) od < 0 then _ else fPrison_drawSleeps_L24 K g p od cnt (xlq x (i * (V 0 0).toNat + j + 1)) _ _ _ m) else _) R
    rw [xPv_0 hv 0 (by decide) (by decide), u0, if_pos (show (j : Int) < V 0 0 by omega), xw32_id (x := (j : Int) + 1) (by omega) (by omega)]
    by_cases d : xcmpL (xrem (xdivL (xlq x (i * (V 0 0).toNat + j + 1)) 65536) 100) od < 0
    · have ed : xdw V x od i j = true := by rw [ew]; exact decide_eq_true d
      rw [if_pos d, xA_p (by omega), xPv_1 hv 5 (j : Int) (by decide) (by decide) (by omega) (by omega), fD_bit_s _ m (by omega) (by omega), b]
      rw [ed] at es
      by_cases sl : xbt (V 5 j) i = true
      · rw [if_neg (by rw [if_pos sl]; decide)]
        rw [sl] at es
        have := drawD_in w hi hcnt hK n g (j + 1) m U (by omega) (by omega) hF hv (same U hU.1 (fun _ _ => rfl) u5.1 (fun h h0 h1 => by
          by_cases eh : h = i
          · rw [eh, b, sl]; simp
          · simp [eh]))
        rw [show ((j + 1 : Nat) : Int) = (j : Int) + 1 from rfl, show xda V x od i ((j : Int) + 1) = xda V x od i j by rw [es]; simp] at this
        exact this
      · have sl' : xbt (V 5 j) i = false := by simpa using sl
        rw [if_pos (by rw [if_neg sl]), xA_p (by omega), xA_p (by omega)]
        rw [sl'] at es
        have f2 : xF p (p + 10) M (xwr m (p + 5) (j : Int) (xor32 (U 5 j) (xshl 1 (i : Int)))) := xwr_F hF (by omega) (by omega)
        have := drawD_in w hi hcnt hK n g (j + 1) _ (xwr U 5 j (xor32 (U 5 j) (xshl 1 (i : Int)))) (by omega) (by omega) f2 (xPv_w hv 5 _ _) (same _ (fun a c ha => by rw [xwr_n _ (fun y => ha y.1)]; exact hU.1 a c ha) (fun c hc => xwr_n _ (fun y => hc y.2)) (by rw [xwr_s]; exact xor_in _ _) (fun h h0 h1 => by
          rw [xwr_s, xbt_or, xbt_shl1 (by omega) (by omega) h0 h1, ed, Bool.and_true]))
        rw [show ((j + 1 : Nat) : Int) = (j : Int) + 1 from rfl, show xda V x od i ((j : Int) + 1) = true by rw [es]; simp, if_pos rfl] at this
        exact this
    · have ed : xdw V x od i j = false := by rw [ew]; exact decide_eq_false d
      rw [if_neg d]
      rw [ed] at es
      have := drawD_in w hi hcnt hK n g (j + 1) m U (by omega) (by omega) hF hv (same U hU.1 (fun _ _ => rfl) u5.1 (fun h h0 h1 => by rw [ed]; simp))
      rw [show ((j + 1 : Nat) : Int) = (j : Int) + 1 from rfl, show xda V x od i ((j : Int) + 1) = xda V x od i j by rw [es]; simp] at this
      exact this
theorem drawD_L {V M : xM} {p x od : Int} (w : xWF V) : ∀ (n g i : Nat) (m U : xM) (cnt : Int), n < g → (i : Int) + n = V 0 1 → xF p (p + 10) M m → xPv m p U → xDp V x od i 0 U → 0 ≤ cnt → cnt ≤ i → xP (fPrison_drawSleeps_L9 g p od cnt (xlq x (i * (V 0 0).toNat)) (i : Int) m) (fun r => r.1 = xsm (xdn V x od) n i cnt ∧ xF p (p + 10) M r.2 ∧ ∃ U : xM, xPv r.2 p U ∧ xDw V x od U)
  | _, 0, _, _, _, _, hg, _, _, _, _, _, _ => absurd hg (Nat.not_lt_zero _)
  | 0, g + 1, i, m, U, cnt, _, hi, hF, hv, hU, _, _ => by
    have u1 : U 0 1 = V 0 1 := hU.1 0 1 (by decide)
    unfold fPrison_drawSleeps_L9
    rw [xPv_0 hv 1 (by decide) (by decide), u1, if_neg (by omega)]
    refine xP_some ⟨rfl, hF, U, hv, hU.1, fun c c0 c1 => ⟨(hU.2 c c0 c1).1, fun h h0 h1 => ?_⟩⟩
    rw [(hU.2 c c0 c1).2 h h0 h1]
    congr 2
    apply decide_eq_decide.mpr
    omega
  | n + 1, g + 1, i, m, U, cnt, hg, hi, hF, hv, hU, c0, c1 => by
    have hN := w.1
    have u1 : U 0 1 = V 0 1 := hU.1 0 1 (by decide)
    have b : 0 ≤ xdn V x od i ∧ xdn V x od i ≤ 1 := by unfold xdn; split <;> omega
    rw [fPrison_drawSleeps_L9, xPv_0 hv 1 (by decide) (by decide), u1, if_pos (show (i : Int) < V 0 1 by omega)]
    have := drawD_in (M := M) (p := p) (x := x) (od := od) (i := i) w (by omega) (K := fPrison_drawSleeps_L9 g) (R := fun r => r.1 = xsm (xdn V x od) (n + 1) i cnt ∧ xF p (p + 10) M r.2 ∧ ∃ U : xM, xPv r.2 p U ∧ xDw V x od U) (cnt := cnt) ⟨c0, c1⟩ (fun m2 U2 f2 v2 d2 => ?_) (V 0 0).toNat 20001 0 m U (by omega) (by omega) hF hv hU
    · rw [show ((0 : Nat) : Int) = 0 from rfl, xda_0, Nat.add_zero] at this
      exact this
    · rw [xsm]
      exact drawD_L w n g (i + 1) m2 U2 _ (by omega) (by omega) f2 v2 d2 (by omega) (by omega)
theorem drawD_s {V m : xM} {p x od : Int} (w : xWF V) (hv : xPv m p V) : xP (fPrison_drawSleeps p x od m) (fun r => r.1 = xsm (xdn V x od) (V 0 1).toNat 0 0 ∧ xF p (p + 10) m r.2 ∧ ∃ U : xM, xPv r.2 p U ∧ xDw V x od U) := by
  have hH := w.2.1
  have := drawD_L (M := m) (p := p) (x := x) (od := od) w (V 0 1).toNat 20001 0 m V 0 (by omega) (by omega) (xF_rfl _ _ _) hv ⟨fun _ _ _ => rfl, fun c c0 c1 => ⟨(w.2.2.2.2.1 c c0 c1).2.2.2.2, fun h h0 h1 => by
    rw [decide_eq_false (by omega), Bool.false_and, Bool.or_false]⟩⟩ (by decide) (by decide)
  rw [Nat.zero_mul] at this
  exact this
theorem WE_Dw {V U : xM} {x od : Int} (w : xWE V) (h : xDw V x od U) : xWE U := by
  obtain ⟨e, f⟩ := h
  have e0 := fun i => e 0 i (by decide)
  have e1 := fun i => e 1 i (by decide)
  have e2 := fun i => e 2 i (by decide)
  have e3 := fun i => e 3 i (by decide)
  have e6 := fun i => e 6 i (by decide)
  have e8 := fun i => e 8 i (by decide)
  have e10 := fun i => e 10 i (by decide)
  obtain ⟨a, b⟩ := w
  unfold xWE xWF at *
  simp only [e0, e1, e2, e3, e6, e8, e10]
  refine ⟨⟨a.1, a.2.1, a.2.2.1, a.2.2.2.1, fun c c0 c1 => ?_, a.2.2.2.2.2⟩, b.1, b.2.1, b.2.2.1, b.2.2.2.1, b.2.2.2.2.1, b.2.2.2.2.2.1, b.2.2.2.2.2.2.1, b.2.2.2.2.2.2.2.1, b.2.2.2.2.2.2.2.2.1, b.2.2.2.2.2.2.2.2.2.1, fun c h c0 c1 h0 h1 hb => ?_, b.2.2.2.2.2.2.2.2.2.2.2⟩
  · have x := a.2.2.2.2.1 c c0 c1
    exact ⟨x.1, x.2.1, x.2.2.1, x.2.2.2.1, (f c c0 c1).1⟩
  · rw [(f c c0 c1).2 h h0 h1, Bool.or_eq_true, Bool.and_eq_true, decide_eq_true_iff] at hb
    rcases hb with hb | hb
    · exact b.2.2.2.2.2.2.2.2.2.2.1 c h c0 c1 h0 h1 hb
    · exact hb.1.2
/-! the reference draws -/
theorem drawQ_in {V M : xM} {x od : Int} {i : Nat} (w : xWE V) (Q : xQ0 M 310 0 V) (hi : (i : Int) < V 0 1) {K : Int → Int → Int → Int → xM → Option xM} {R : xM → Prop} {cnt : Int} (hcnt : 0 ≤ cnt ∧ cnt ≤ i)
    (hK : ∀ m : xM, xF 323 323 M m → (∀ h : Int, h ≠ i → m 323 h = M 323 h) → (∀ c : Int, 0 ≤ c → c < V 0 0 → xbt (m 323 i) c = xdw V x od i c) → xP (K 310 od (xlq x ((i + 1) * (V 0 0).toNat)) ((i : Int) + 1) (xwr m 310 46 (cnt + xdn V x od i))) R) (h46 : M 310 46 = cnt) : ∀ (n g j : Nat) (m : xM), n < g → (j : Int) + n = V 0 0 → xF 323 323 M m → (∀ h : Int, h ≠ i → m 323 h = M 323 h) → (∀ c : Int, 0 ≤ c → c < V 0 0 → xbt (m 323 i) c = (decide (c < j) && xdw V x od i c)) → xP (fQ_draws_L40 K g 310 od (xlq x (i * (V 0 0).toNat + j)) (i : Int) (if xda V x od i j = true then 1 else 0) (j : Int) m) R
  | _, 0, _, _, hg, _, _, _, _ => absurd hg (Nat.not_lt_zero _)
  | 0, g + 1, j, m, _, hj, hF, ho, hb => by
    have hN := w.1.1
    have hH := w.1.2.1
    have ej : (j : Int) = V 0 0 := by omega
    have el : i * (V 0 0).toNat + j = (i + 1) * (V 0 0).toNat := by rw [Nat.succ_mul]; omega
    have r7 : m (310 + 7) 0 = V 0 0 := by rw [hF _ (by decide)]; exact Q.1.1.2.1
    unfold fQ_draws_L40
    rw [r7, if_neg (by omega), xw32_id (x := (i : Int) + 1) (by omega) (by omega), el, hF 310 (by decide), h46, xw32_id (x := cnt + 0) (by omega) (by omega), xw32_id (x := cnt + 1) (by omega) (by omega)]
    have := hK m hF ho (fun c c0 c1 => by rw [hb c c0 c1, decide_eq_true (by omega), Bool.true_and])
    unfold xdn at this
    rw [ej]
    by_cases e : xda V x od i (V 0 0) = true
    · rw [if_pos e] at this
      rw [if_neg (by rw [if_pos e]; decide)]
      exact this
    · rw [if_neg e] at this
      rw [if_pos (by rw [if_neg e])]
      exact this
  | n + 1, g + 1, j, m, hg, hj, hF, ho, hb => by
    have hN := w.1.1
    have hH := w.1.2.1
    have es := xda_s (V := V) (x := x) (od := od) (h := (i : Int)) j
    have r7 : m (310 + 7) 0 = V 0 0 := by rw [hF _ (by decide)]; exact Q.1.1.2.1
    have ew : xdw V x od i j = xdr x od (i * (V 0 0).toNat + j) := by unfold xdw; rw [Int.toNat_natCast, Int.toNat_natCast]
    rw [fQ_draws_L40]
    show xP (if (j : Int) < m (310 + 7) 0 then (if xcmpL (xrem (xdivL (xlq x (i * (V 0 0).toNat + j + 1)) 65536) 100) od < 0 then _ else fQ_draws_L40 K g 310 od (xlq x (i * (V 0 0).toNat + j + 1)) _ _ _ m) else _) R
    rw [r7, if_pos (show (j : Int) < V 0 0 by omega), xw32_id (x := (j : Int) + 1) (by omega) (by omega)]
    by_cases d : xcmpL (xrem (xdivL (xlq x (i * (V 0 0).toNat + j + 1)) 65536) 100) od < 0
    · have ed : xdw V x od i j = true := by rw [ew]; exact decide_eq_true d
      rw [if_pos d, xA_p (by omega), xA_p (by omega)]
      rw [ed] at es
      obtain ⟨m2, hm2⟩ : ∃ m2 : xM, m2 = xwr m (310 + 13) (i : Int) (xor32 (m (310 + 13) (i : Int)) (xshl 1 (j : Int))) := ⟨_, rfl⟩
      have f2 : xF 323 323 M m2 := by rw [hm2]; exact xwr_F hF (by decide) (by decide)
      have o2 : ∀ h : Int, h ≠ i → m2 323 h = M 323 h := fun h hh => by rw [hm2, xwr_n _ (fun y => hh y.2)]; exact ho h hh
      have b2 : ∀ c : Int, 0 ≤ c → c < V 0 0 → xbt (m2 323 i) c = (decide (c < ((j + 1 : Nat) : Int)) && xdw V x od i c) := fun c c0 c1 => by
        have e2 : m2 323 i = xor32 (m 323 i) (xshl 1 (j : Int)) := by rw [hm2]; exact xwr_s _ _ _ _
        rw [e2, xbt_or, xbt_shl1 (by omega) (by omega) c0 (by omega), hb c c0 c1]
        by_cases ec : c = j
        · rw [ec, ed]; simp; omega
        · have : decide (c < ((j + 1 : Nat) : Int)) = decide (c < (j : Int)) := by apply decide_eq_decide.mpr; omega
          rw [this]; simp [ec]
      have Q2 : xQ0 m2 310 0 V := xQ0_kp Q (xKp_F f2 (fun a a0 a1 => by unfold xPer; omega))
      have go := drawQ_in w Q hi hcnt hK h46 n g (j + 1) m2 (by omega) (by omega) f2 o2 b2
      rw [show ((j + 1 : Nat) : Int) = (j : Int) + 1 from rfl] at go
      rw [← hm2, told_V Q2 w (by omega) (by omega) (by omega) (by omega), xB_s]
      cases hx : xda V x od i j
      · rw [if_pos (by rfl)]
        cases hs : xbt (V 5 j) i
        · rw [show xda V x od i ((j : Int) + 1) = true by rw [es, hx, hs]; rfl, if_pos rfl] at go
          rw [if_pos (by rfl)]
          exact go
        · rw [show xda V x od i ((j : Int) + 1) = false by rw [es, hx, hs]; rfl, if_neg (by decide)] at go
          rw [if_neg (by decide)]
          exact go
      · rw [show xda V x od i ((j : Int) + 1) = true by rw [es, hx]; rfl, if_pos rfl] at go
        rw [if_neg (by decide)]
        exact go
    · have ed : xdw V x od i j = false := by rw [ew]; exact decide_eq_false d
      rw [if_neg d]
      rw [ed] at es
      have go := drawQ_in w Q hi hcnt hK h46 n g (j + 1) m (by omega) (by omega) hF ho (fun c c0 c1 => by
        rw [hb c c0 c1]
        by_cases ec : c = j
        · rw [ec, ed]; simp
        · have : decide (c < ((j + 1 : Nat) : Int)) = decide (c < (j : Int)) := by apply decide_eq_decide.mpr; omega
          rw [this])
      rw [show ((j + 1 : Nat) : Int) = (j : Int) + 1 from rfl, show xda V x od i ((j : Int) + 1) = xda V x od i j by rw [es]; simp] at go
      exact go
/-- what the reference's draws leave -/
def xDq (M m V : xM) (x od : Int) (U : xM) : Prop := xKp M m ∧ xEf m 310 U ∧ xWd m 310 U (fun _ => false) ∧ m 310 29 = 0 ∧ m 310 46 = xsm (xdn V x od) (V 0 1).toNat 0 0 ∧ (∀ h : Nat, (h : Int) < U 0 1 → m (310 + 15) h = xcm U h ∧ m (310 + 16) h = xgn U (h + 1))
theorem drawQ_L {V M U : xM} {x od : Int} (w : xWE V) (hp : 2 ≤ V 0 0) (hU : xDw V x od U) (P : xPl M 310) (tot : Int) : ∀ (n g i : Nat) (m : xM) (cnt : Int), n < g → (i : Int) + n = V 0 1 → xQ0 m 310 0 V → xKp M m → (∀ j : Int, 23 ≤ j → j ≤ 35 → m 310 j = M 310 j) → m 310 46 = cnt → 0 ≤ cnt → cnt ≤ i → xsm (xdn V x od) n i cnt = tot → (∀ h c : Int, 0 ≤ h → h < i → 0 ≤ c → c < V 0 0 → xbt (m 323 h) c = xdw V x od h c) → xP (fQ_draws_L15 g 310 od (xlq x (i * (V 0 0).toNat)) (i : Int) m) (fun r => xKp M r ∧ xEf r 310 U ∧ xWd r 310 U (fun _ => false) ∧ r 310 29 = 0 ∧ r 310 46 = tot ∧ (∀ h : Nat, (h : Int) < U 0 1 → r (310 + 15) h = xcm U h ∧ r (310 + 16) h = xgn U (h + 1)))
  | _, 0, _, _, _, hg, _, _, _, _, _, _, _, _, _ => absurd hg (Nat.not_lt_zero _)
  | 0, g + 1, i, m, cnt, _, hi, Q, hk, hfl, h46, _, _, ht, hb => by
    have hN := w.1.1
    have hH := w.1.2.1
    have wU := WE_Dw w hU
    have u0 : U 0 0 = V 0 0 := hU.1 0 0 (by decide)
    have u1 : U 0 1 = V 0 1 := hU.1 0 1 (by decide)
    obtain ⟨p1, p2, p3, p4, p5, p6, p7, p8, p9⟩ := P
    unfold fQ_draws_L15
    rw [show m (310 + 7) 1 = V 0 1 from Q.1.1.2.2.1, if_neg (by omega)]
    obtain ⟨m1, hm1⟩ : ∃ m1 : xM, m1 = xwr m 310 35 1 := ⟨_, rfl⟩
    rw [← hm1]
    have ma : ∀ a : Int, a ≠ 310 → m1 a = m a := fun a ha => by rw [hm1]; exact xwr_a _ ha
    have mi : ∀ j : Int, j ≠ 35 → m1 310 j = m 310 j := fun j hj => by rw [hm1]; exact xwr_n _ (fun y => hj y.2)
    have m35 : m1 310 35 = 1 := by rw [hm1]; exact xwr_s _ _ _ _
    have k1 : xKp m m1 := by rw [hm1]; exact xKp_w (xKp_rfl m) (by decide) (by decide) (by decide)
    have Q1 := xQ0_kp Q k1
    have E : xEf m1 310 U := by
      refine xEf_mk Q1.1 w hp (by rw [hU.1 0 3 (by decide)]; exact Q1.2) (by rw [hU.1 0 3 (by decide)]; exact w.1.2.2.1) u0 u1 (fun d h d0 d1 h0 h1 => ?_) (fun d d0 d1 => ?_) (fun b _ _ => ?_) (fun k _ _ => ⟨hU.1 _ _ (by decide), hU.1 _ _ (by decide), hU.1 _ _ (by decide)⟩) (Or.inl ⟨by rw [mi _ (by decide), hfl _ (by decide) (by decide)]; exact p8, hU.1 0 7 (by decide)⟩)
      · rw [u0] at d1
        rw [u1] at h1
        rw [(hU.2 d d0 (by omega)).2 h h0 (by omega), decide_eq_true (show d < V 0 0 ∧ h < V 0 1 from ⟨d1, h1⟩), Bool.true_and, mi 23 (by decide), hfl 23 (by decide) (by decide), p1, m35, ma _ (by decide), show (310 : Int) + 13 = 323 from rfl, hb h d h0 (by omega) d0 d1, Bool.or_eq_true]
        simp
      · rw [mi 25 (by decide), mi 26 (by decide), mi 27 (by decide), mi 28 (by decide), hfl 25 (by decide) (by decide), hfl 26 (by decide) (by decide), hfl 27 (by decide) (by decide), hfl 28 (by decide) (by decide), p3, p4, p5, p6, xbt_0, hU.1 1 d (by decide), hU.1 2 d (by decide), hU.1 3 d (by decide), hU.1 0 4 (by decide), hU.1 0 5 (by decide)]
        simp
      · rw [mi 24 (by decide), hfl 24 (by decide) (by decide), p2, hU.1 6 b (by decide)]; simp
    refine xP_B (would_s E wU.1) ?_
    rintro m3 ⟨f3, E3, D3⟩
    have z29 : m1 310 29 = 0 := by rw [mi _ (by decide), hfl _ (by decide) (by decide)]; exact p7
    have D3' : xWd m3 310 U (fun _ => false) := fun h s c a b d e g => by rw [D3 h s c a b d e g]; show (_ && !xbt (m1 310 29) c) = _; rw [z29, xbt_0]
    have k3 : xKp m m3 := xKp_tr k1 (xKp_F f3 (fun a a0 a1 => by unfold xPer; omega))
    have Q3 := xQ0_kp Q k3
    unfold fQ_goes
    refine xP_B (goes_L E3 D3' wU (fun h h0 h1 => by rw [hU.1 10 h (by decide)]; exact qplan Q3 h0 h1) (U 0 1).toNat 20001 0 m3 (by omega) (by omega) (xF_rfl _ _ _) (fun h hh => absurd hh (by omega))) ?_
    rintro m4 ⟨f4, g4⟩
    refine xP_some ⟨xKp_tr hk (xKp_tr k3 (xKp_F f4 (fun a a0 a1 => by unfold xPer; omega))), xEf_go E3 (fun j _ _ => by rw [f4 310 (by omega)]) (f4 _ (by omega)) (f4 _ (by omega)) (f4 _ (by omega)) (f4 _ (by omega)) (f4 _ (by omega)), xWd_go D3' (f4 _ (by omega)), ?_, ?_, g4⟩
    · rw [f4 310 (by omega), f3 310 (by omega)]; exact z29
    · rw [f4 310 (by omega), f3 310 (by omega), mi _ (by decide), h46]; exact ht
  | n + 1, g + 1, i, m, cnt, hg, hi, Q, hk, hfl, h46, c0, c1, ht, hb => by
    have hN := w.1.1
    have hH := w.1.2.1
    have b : 0 ≤ xdn V x od i ∧ xdn V x od i ≤ 1 := by unfold xdn; split <;> omega
    have f0 : xF 323 323 m (xwr m (310 + 13) (i : Int) 0) := xwr_F (xF_rfl _ _ _) (by decide) (by decide)
    have k0 : xKp m (xwr m (310 + 13) (i : Int) 0) := xKp_F f0 (fun a a0 a1 => by unfold xPer; omega)
    rw [fQ_draws_L15, show m (310 + 7) 1 = V 0 1 from Q.1.1.2.2.1, if_pos (show (i : Int) < V 0 1 by omega), xA_p (by omega)]
    have := drawQ_in (x := x) (od := od) (i := i) w (xQ0_kp Q k0) (by omega) (K := fQ_draws_L15 g) (R := fun r => xKp M r ∧ xEf r 310 U ∧ xWd r 310 U (fun _ => false) ∧ r 310 29 = 0 ∧ r 310 46 = tot ∧ (∀ h : Nat, (h : Int) < U 0 1 → r (310 + 15) h = xcm U h ∧ r (310 + 16) h = xgn U (h + 1))) (cnt := cnt) ⟨c0, c1⟩ (fun m2 f2 o2 b2 => ?_) (by rw [f0 310 (by decide)]; exact h46) (V 0 0).toNat 20001 0 _ (by omega) (by omega) (xF_rfl _ _ _) (fun _ _ => rfl) (fun c a0 a1 => by rw [show (323 : Int) = 310 + 13 from rfl, xwr_s, xbt_0]; simp; omega)
    · rw [show ((0 : Nat) : Int) = 0 from rfl, xda_0, Nat.add_zero] at this
      exact this
    · have k2 : xKp m m2 := xKp_tr k0 (xKp_F f2 (fun a a0 a1 => by unfold xPer; omega))
      have k3 : xKp m (xwr m2 310 46 (cnt + xdn V x od i)) := xKp_w k2 (by decide) (by decide) (by decide)
      rw [xsm] at ht
      refine drawQ_L w hp hU P tot n g (i + 1) _ _ (by omega) (by omega) (xQ0_kp Q k3) (xKp_tr hk k3) (fun j j0 j1 => ?_) (xwr_s _ _ _ _) (by omega) (by omega) ht (fun h c h0 h1 d0 d1 => ?_)
      · rw [xwr_n _ (by omega), f2 310 (by decide), f0 310 (by decide)]; exact hfl j j0 j1
      · rw [xwr_a _ (by decide)]
        by_cases eh : h = i
        · rw [eh]; exact b2 c d0 d1
        · rw [o2 h eh, show (323 : Int) = 310 + 13 from rfl, xwr_n _ (fun y => eh y.2)]
          exact hb h c h0 (by omega) d0 d1
theorem drawQ_s {V m U : xM} {x od : Int} (w : xWE V) (hp : 2 ≤ V 0 0) (hU : xDw V x od U) (Q : xQ0 m 310 0 V) : xP (fQ_draws 310 x od m) (fun r => xDq m r V x od U) := by
  have hH := w.1.2.1
  have k := plainly_kp m
  have P := (plainly_s 310 m).1
  unfold fQ_draws
  have k2 : xKp m (xwr (fQ_plainly 310 m) 310 46 0) := xKp_w k (by decide) (by decide) (by decide)
  have := drawQ_L (M := fQ_plainly 310 m) (x := x) (od := od) w hp hU P (xsm (xdn V x od) (V 0 1).toNat 0 0) (V 0 1).toNat 20001 0 (xwr (fQ_plainly 310 m) 310 46 0) 0 (by omega) (by omega) (xQ0_kp Q k2) (xKp_w (xKp_rfl _) (by decide) (by decide) (by decide)) (fun j j0 j1 => xwr_n _ (by omega)) (xwr_s _ _ _ _) (by decide) (by decide) rfl (fun h c h0 h1 => absurd h1 (by omega))
  rw [Nat.zero_mul] at this
  refine xP_mono this ?_
  rintro r ⟨a, b⟩
  exact ⟨xKp_tr k a, b⟩
end
