/-! calls, fifth batch -/
noncomputable section
theorem pairsD_L {M V : xM} {h : Int} (W : xWF V) (hv : xPv M (1 + 15) V) (k : xKO M (1 + 37 + 1) V) (h0 : 0 ≤ h) (h1 : h < V 0 1) : ∀ (n g i : Nat) (a : Int), n < g → (i : Int) + n = V 0 0 → 0 ≤ a → a ≤ i → fD_pairs_L18 g 1 h a (i : Int) M = some (xsm (fun c => if (xnv V c 1 ≠ -1 ∧ xT V c 1 h = true ∧ xT V (xnv V c 1) 0 h = true) then 1 else 0) n i a)
  | _, 0, _, _, hg, _, _, _ => absurd hg (Nat.not_lt_zero _)
  | 0, g + 1, i, a, _, hi, _, _ => by
    unfold fD_pairs_L18 xsm
    rw [xPv_0 hv 0 (by decide) (by decide), if_neg (by omega)]
  | n + 1, g + 1, i, a, hg, hi, a0, a1 => by
    have hN := W.1
    have hH := W.2.1
    rw [fD_pairs_L18, xsm]
    rw [xPv_0 hv 0 (by decide) (by decide), if_pos (by omega), nb_s hv W (by omega) (by omega), xw32_id (x := (i : Int) + 1) (by omega) (by omega)]
    by_cases e : xnv V i 1 = -1
    · rw [if_pos (show xnb (V 0 0) (V 0 3) i 1 = -1 from e), if_neg (fun x => x.1 e), Int.add_zero]
      exact pairsD_L W hv k h0 h1 n g (i + 1) a (by omega) (by omega) a0 (by omega)
    · have r := xnv_rg (c := (i : Int)) (s := 1) (by omega) (by omega) e
      have t1 := (k.2.2.1 i 1 (by omega) (by omega) (Or.inr rfl)).2 h h0 (by omega)
      have t2 := (k.2.2.1 (xnv V i 1) 0 r.1 r.2 (Or.inl rfl)).2 h h0 (by omega)
      rw [if_neg (show ¬ xnb (V 0 0) (V 0 3) i 1 = -1 from e), show xnb (V 0 0) (V 0 3) i 1 = xnv V i 1 from rfl, xw32_id (x := 2 * (i : Int)) (by omega) (by omega), xw32_id (x := 2 * (i : Int) + 1) (by omega) (by omega), xw32_id (x := 2 * xnv V i 1) (by omega) (by omega), xw32_id (x := 2 * xnv V i 1 + 0) (by omega) (by omega), xA_p (by omega), xA_p (by omega), fD_bit_s _ M h0 (by omega), xbt_and, t1, t2, decide_eq_true h1, Bool.true_and, Bool.true_and]
      have fin : ∀ y : Int, 0 ≤ y → y ≤ 1 → fD_pairs_L18 g 1 h (xw32 (a + y)) ((i : Int) + 1) M = some (xsm (fun c => if (xnv V c 1 ≠ -1 ∧ xT V c 1 h = true ∧ xT V (xnv V c 1) 0 h = true) then 1 else 0) n (i + 1) (a + y)) := fun y y0 y1 => by
        rw [xw32_id (by omega) (by omega)]
        exact pairsD_L W hv k h0 h1 n g (i + 1) _ (by omega) (by omega) (by omega) (by omega)
      by_cases x : xT V i 1 h = true ∧ xT V (xnv V i 1) 0 h = true
      · rw [if_pos (show (xT V i 1 h && xT V (xnv V i 1) 0 h) = true by rw [x.1, x.2]; rfl), if_pos (show (xnv V i 1 ≠ -1 ∧ xT V i 1 h = true ∧ xT V (xnv V i 1) 0 h = true) from ⟨e, x⟩)]
        exact fin 1 (by decide) (by decide)
      · rw [if_neg (show ¬ (xT V i 1 h && xT V (xnv V i 1) 0 h) = true by rw [Bool.and_eq_true]; exact x), if_neg (show ¬ (xnv V i 1 ≠ -1 ∧ xT V i 1 h = true ∧ xT V (xnv V i 1) 0 h = true) from fun y => x y.2)]
        exact fin 0 (by decide) (by decide)
theorem pairsQ_L {m V : xM} {h : Int} (W : xWF V) (E : xEf m 310 V) (D : xWd m 310 V (fun _ => false)) (h0 : 0 ≤ h) (h1 : h < V 0 1) : ∀ (n g i : Nat) (a : Int), n < g → (i : Int) + n = V 0 0 → 0 ≤ a → a ≤ i → fQ_pairs_L25 g 310 h a (i : Int) m = some (xsm (fun c => if (xnv V c 1 ≠ -1 ∧ xT V c 1 h = true ∧ xT V (xnv V c 1) 0 h = true) then 1 else 0) n i a, m)
  | _, 0, _, _, hg, _, _, _ => absurd hg (Nat.not_lt_zero _)
  | 0, g + 1, i, a, _, hi, _, _ => by
    unfold fQ_pairs_L25 xsm
    rw [E.1.1, if_neg (by omega)]
  | n + 1, g + 1, i, a, hg, hi, a0, a1 => by
    have hN := W.1
    have hH := W.2.1
    rw [fQ_pairs_L25, xsm]
    rw [E.1.1, if_pos (by omega), besideV E W (by omega) (by omega) (Or.inr rfl), xB_s, xw32_id (x := (i : Int) + 1) (by omega) (by omega), Int.add_zero, xw32_id (x := a) (by omega) (by omega), xw32_id (x := a + 1) (by omega) (by omega)]
    by_cases e : xnv V i 1 = -1
    · rw [if_pos e, if_neg (fun x => x.1 e), Int.add_zero]
      exact pairsQ_L W E D h0 h1 n g (i + 1) a (by omega) (by omega) a0 (by omega)
    · have r := xnv_rg (c := (i : Int)) (s := 1) (by omega) (by omega) e
      have t1 := D h 1 i h0 h1 (Or.inr rfl) (by omega) (by omega)
      have t2 := D h 0 (xnv V i 1) h0 h1 (Or.inl rfl) r.1 r.2
      rw [Int.add_zero] at t2
      rw [if_neg e, xw32_id (x := 2 * h) (by omega) (by omega), xw32_id (x := 2 * h + 1) (by omega) (by omega), xA_p (by omega), fQ_isBit_s _ m (by omega) (by omega), fQ_isBit_s _ m r.1 (by omega), t1, t2, Bool.not_false, Bool.and_true, Bool.and_true]
      by_cases x1 : xT V i 1 h = true
      · rw [if_neg (by rw [if_pos x1]; decide), xA_p (by omega)]
        by_cases x2 : xT V (xnv V i 1) 0 h = true
        · rw [if_neg (by rw [if_pos x2]; decide), if_pos ⟨e, x1, x2⟩]
          exact pairsQ_L W E D h0 h1 n g (i + 1) _ (by omega) (by omega) (by omega) (by omega)
        · rw [if_pos (by rw [if_neg x2]), if_neg (fun y => x2 y.2.2), Int.add_zero]
          exact pairsQ_L W E D h0 h1 n g (i + 1) a (by omega) (by omega) a0 (by omega)
      · rw [if_pos (by rw [if_neg x1]), if_neg (fun y => x1 y.2.1), Int.add_zero]
        exact pairsQ_L W E D h0 h1 n g (i + 1) a (by omega) (by omega) a0 (by omega)
theorem call_57 {M : xM} (S : Sim M) (h : Int) : xC1 (fD_pairs 1 h M) (fQ_pairs 310 h M) M := by
  obtain ⟨V, hv, W, Q, K, Q0, L⟩ := opn S
  have hN := W.1.1
  unfold fD_pairs fQ_pairs
  rw [hasHour_s, qHour_s Q0 W, xPv_0 hv 1 (by decide) (by decide)]
  simp only [if10]
  by_cases h1 : 0 ≤ h ∧ h < V 0 1
  · have p2 := W2h W h1.1 h1.2
    rw [if_neg (not_not_intro h1), if_neg (not_not_intro h1)]
    refine xC1_Q (pairsD_L (V := V) W.1 hv (L p2).1.1 h1.1 h1.2 (V 0 0).toNat 20001 0 0 (by omega) (by omega) (by decide) (by decide)) ?_
    refine xP_B (lays_s Q0 W p2) ?_
    rintro m ⟨k1, E, D, P⟩
    exact xP_of (pairsQ_L (V := V) W.1 E D h1.1 h1.2 (V 0 0).toNat 20001 0 0 (by omega) (by omega) (by decide) (by decide)) ⟨rfl, xKp_tr K k1⟩
  · rw [if_pos h1, if_pos h1]; exact xC1_eq rfl rfl K
/-! who is wanted -/
def xmd (V : xM) (c s h : Int) : Bool := decide (xnv V c s ≠ -1) && ((decide (xnv V (xnv V c s) s = -1) || xT V (xnv V (xnv V c s) s) (1 - s) h) && !xT V c s h)
theorem missed_s {M V : xM} {c s : Int} (W : xWF V) (hv : xPv M (1 + 15) V) (k : xKO M (1 + 37 + 1) V) (c0 : 0 ≤ c) (c1 : c < V 0 0) (hs : s = 0 ∨ s = 1) : xP (fD_missedHours 1 c s M) (fun r => xBs (V 0 1) (xmd V c s) r) := by
  have hN := W.1
  have hH := W.2.1
  have t1 := (k.2.2.1 c s c0 c1 hs).2
  unfold fD_missedHours
  rw [nb_s hv W c0 c1, show xnb (V 0 0) (V 0 3) c s = xnv V c s from rfl]
  by_cases e : xnv V c s = -1
  · rw [if_pos e]
    exact xP_some ⟨by constructor <;> decide, fun h a b => by rw [xbt_0]; unfold xmd; simp [e]⟩
  · have r := xnv_rg c0 c1 e
    rw [if_neg e, nb_s hv W r.1 r.2, show xnb (V 0 0) (V 0 3) (xnv V c s) s = xnv V (xnv V c s) s from rfl]
    have fin : ∀ y : Int, (∀ h : Int, 0 ≤ h → h < 32 → xbt y h = (decide (h < V 0 1) && (decide (xnv V (xnv V c s) s = -1) || xT V (xnv V (xnv V c s) s) (1 - s) h))) → xP (fD_missedHours_L71 1 c s y M) (fun r => xBs (V 0 1) (xmd V c s) r) := by
      intro y hy
      unfold fD_missedHours_L71
      rw [xw32_id (x := 2 * c) (by omega) (by omega), xw32_id (by omega) (by omega), xA_p (by omega)]
      refine xP_some ⟨xand_in _ _, fun h a b => ?_⟩
      rw [xbt_and, xbt_not _ a b, hy h a b, t1 h a b]
      unfold xmd
      rw [decide_eq_true e]
      cases decide (h < V 0 1) <;> simp
    by_cases e2 : xnv V (xnv V c s) s = -1
    · rw [if_pos e2, xPv_0 hv 1 (by decide) (by decide), xmsk hH.1 (by omega)]
      refine fin _ (fun h a b => ?_)
      rw [xbt_mk _ (by omega) a b, decide_eq_true e2, Bool.true_or, Bool.and_true]
      apply decide_eq_decide.mpr
      omega
    · have r2 := xnv_rg r.1 r.2 e2
      have t2 := (k.2.2.1 (xnv V (xnv V c s) s) (1 - s) r2.1 r2.2 (by omega)).2
      rw [if_neg e2, xw32_id (x := 2 * xnv V (xnv V c s) s) (by omega) (by omega), xw32_id (x := 2 * xnv V (xnv V c s) s + 1) (by omega) (by omega), xw32_id (x := 2 * xnv V (xnv V c s) s + 1 - s) (by omega) (by omega), xA_p (by omega), show 2 * xnv V (xnv V c s) s + 1 - s = 2 * xnv V (xnv V c s) s + (1 - s) by omega]
      exact fin _ (fun h a b => by rw [t2 h a b, decide_eq_false e2, Bool.false_or])
theorem xtn_0 {V : xM} {b s h : Int} : xtn V (fun _ => false) b s h 0 = (decide (xnv V b s = -1) || xT V (xnv V b s) (1 - s) h) := by
  unfold xtn
  rw [xbt_0]
  simp
theorem wantedQ_L {m V : xM} {c : Int} (W : xWF V) (p2 : 2 ≤ V 0 0) (E : xEf m 310 V) (D : xWd m 310 V (fun _ => false)) (c0 : 0 ≤ c) (c1 : c < V 0 0) : ∀ (n g i : Nat) (a : Int), n < g → (i : Int) + n = V 0 1 → 0 ≤ a → a ≤ 2 * i → fQ_wanted_L25 g 310 c a (i : Int) m = some (xsm (fun h => (if xmd V c 0 h = true then 1 else 0) + (if xmd V c 1 h = true then 1 else 0)) n i a, m)
  | _, 0, _, _, hg, _, _, _ => absurd hg (Nat.not_lt_zero _)
  | 0, g + 1, i, a, _, hi, _, _ => by
    unfold fQ_wanted_L25 xsm
    rw [E.1.2.1, if_neg (by omega)]
  | n + 1, g + 1, i, a, hg, hi, a0, a1 => by
    have hN := W.1
    have hH := W.2.1
    have side : ∀ (g2 : Nat) (K : Int → Int → Int → Int → xM → Option (Int × xM)) (s y : Int), (s = 0 ∨ s = 1) → 0 ≤ y → y ≤ 100 → fQ_wanted_L38 K (g2 + 1) 310 c y (i : Int) s m = fQ_wanted_L38 K g2 310 c (y + (if xmd V c s i = true then 1 else 0)) (i : Int) (s + 1) m := by
      intro g2 K s y hs y0 y1
      rw [fQ_wanted_L38, if_pos (by omega), besideV E W c0 c1 hs, xB_s, xw32_id (x := s + 1) (by omega) (by omega), Int.add_zero, xw32_id (x := y) (by omega) (by omega), xw32_id (x := y + 1) (by omega) (by omega), xw32_id (x := 1 - s) (by omega) (by omega)]
      unfold xmd
      by_cases e : xnv V c s = -1
      · rw [if_pos e]; simp [e]
      · have r := xnv_rg c0 c1 e
        have iv := xnv_inv p2 c0 c1 hs e
        rw [if_neg e, turns_s E D W r.1 r.2 (by omega) (by omega) (by omega), xB_s, turns_s E D W r.1 r.2 hs (by omega) (by omega), xB_s, xtn_0, xtn_0, iv, show 1 - (1 - s) = s by omega, decide_eq_false (show ¬ c = -1 by omega), Bool.false_or, decide_eq_true e]
        cases xT V c s i <;> cases (decide (xnv V (xnv V c s) s = -1) || xT V (xnv V (xnv V c s) s) (1 - s) i) <;> simp
    have b0 : 0 ≤ (if xmd V c 0 i = true then (1 : Int) else 0) ∧ (if xmd V c 0 i = true then (1 : Int) else 0) ≤ 1 := by split <;> omega
    have b1 : 0 ≤ (if xmd V c 1 i = true then (1 : Int) else 0) ∧ (if xmd V c 1 i = true then (1 : Int) else 0) ≤ 1 := by split <;> omega
    rw [fQ_wanted_L25, xsm]
    rw [E.1.2.1, if_pos (by omega), side 20000 _ 0 a (Or.inl rfl) a0 (by omega), side 19999 _ (0 + 1) _ (Or.inr rfl) (by omega) (by omega), fQ_wanted_L38, if_neg (by decide), xw32_id (x := (i : Int) + 1) (by omega) (by omega), Int.add_assoc]
    exact wantedQ_L W p2 E D c0 c1 n g (i + 1) _ (by omega) (by omega) (by omega) (by omega)
theorem xsm_2 {p q : Nat → Bool} : ∀ (n : Nat) (a : Int), xsm (fun h => (if p h = true then 1 else 0) + (if q h = true then 1 else 0)) n 0 a = a + ((xct p n : Nat) : Int) + ((xct q n : Nat) : Int)
  | 0, a => by simp [xsm, xct]
  | n + 1, a => by
    rw [xsm_snoc, xsm_2 n a, xct, xct, Nat.zero_add]
    split <;> split <;> simp <;> omega
theorem call_44 {M : xM} (S : Sim M) (c : Int) : xC1 (fD_wanted 1 c M) (fQ_wanted 310 c M) M := by
  obtain ⟨V, hv, W, Q, K, Q0, L⟩ := opn S
  have hH := W.1.2.1
  unfold fD_wanted fQ_wanted
  rw [hasCell_s, qCell_s Q0 W, xPv_0 hv 0 (by decide) (by decide)]
  simp only [if10]
  by_cases h1 : 0 ≤ c ∧ c < V 0 0
  · have p2 := W2 W h1.1 h1.2
    rw [if_neg (not_not_intro h1), if_neg (not_not_intro h1)]
    refine xC1_of (A := fun r => r = 0 + ((xct (fun h => xmd V c 0 h) (V 0 1).toNat : Nat) : Int) + ((xct (fun h => xmd V c 1 h) (V 0 1).toNat : Nat) : Int)) ?_ ?_ (fun r s a b => a.trans b.symm)
    · refine xP_B (missed_s W.1 hv (L p2).1.1 h1.1 h1.2 (Or.inl rfl)) (fun v0 b0 => ?_)
      refine xP_B (missed_s W.1 hv (L p2).1.1 h1.1 h1.2 (Or.inr rfl)) (fun v1 b1 => xP_some ?_)
      have p0 := xBs_pos b0 hH.2
      have p1 := xBs_pos b1 hH.2
      have l0 := xct_le (fun h => xmd V c 0 (h : Int)) (V 0 1).toNat
      have l1 := xct_le (fun h => xmd V c 1 (h : Int)) (V 0 1).toNat
      rw [JI_bc (by omega), JI_bc (by omega), xBs_pc b0 hH.1 (by omega), xBs_pc b1 hH.1 (by omega), Int.zero_add]
      exact xw32_id (by omega) (by omega)
    · refine xP_B (lays_s Q0 W p2) ?_
      rintro m ⟨k1, E, D, P⟩
      refine xP_of (wantedQ_L (V := V) W.1 p2 E D h1.1 h1.2 (V 0 1).toNat 20001 0 0 (by omega) (by omega) (by decide) (by decide)) ⟨?_, xKp_tr K k1⟩
      exact xsm_2 (p := fun h => xmd V c 0 h) (q := fun h => xmd V c 1 h) _ 0
  · rw [if_pos h1, if_pos h1]; exact xC1_eq rfl rfl K
/-! prices -/
def xps (V : xM) (c s h : Int) : Int := if xnv V c s = -1 then 0 else if xgr V (xnv V c s) (1 - s) h ≠ 0 then 1000000 else if xlk V (2 * xnv V c s + (1 - s)) h < V 3 (xnv V c s) then V 3 (xnv V c s) - xlk V (2 * xnv V c s + (1 - s)) h else 0
theorem xps_rg {V : xM} {c s h : Int} (W : xWF V) (c0 : 0 ≤ c) (c1 : c < V 0 0) (hs : s = 0 ∨ s = 1) : xps V c s h = 1000000 ∨ (0 ≤ xps V c s h ∧ xps V c s h ≤ 9) := by
  have hN := W.1
  unfold xps
  by_cases e : xnv V c s = -1
  · rw [if_pos e]; omega
  · have r := xnv_rg c0 c1 e
    have t := (W.2.2.2.2.1 (xnv V c s) r.1 (by omega)).2.2.2.1
    have l := xlk_rg W (b := 2 * xnv V c s + (1 - s)) h (by omega) (by omega)
    rw [if_neg e]
    split
    · exact Or.inl rfl
    · split <;> omega
theorem points_s {m V : xM} {c s h : Int} (W : xWF V) (p2 : 2 ≤ V 0 0) (E : xEf m 310 V) (c0 : 0 ≤ c) (c1 : c < V 0 0) (hs : s = 0 ∨ s = 1) (h0 : 0 ≤ h) (h1 : h < V 0 1) : fQ_pointsOf 310 c s h m = some (xps V c s h) := by
  have hN := W.1
  unfold fQ_pointsOf xps
  rw [besideV E W c0 c1 hs, xB_s]
  by_cases e : xnv V c s = -1
  · rw [if_pos e, if_pos e]
  · have r := xnv_rg c0 c1 e
    have t := (W.2.2.2.2.1 (xnv V c s) r.1 (by omega)).2.2.2.1
    have l := xlk_rg W (b := 2 * xnv V c s + (1 - s)) h (by omega) (by omega)
    have et := (E.2.2.2.2.1 (xnv V c s) r.1 r.2).2.2.1
    have iv := xnv_inv p2 c0 c1 hs e
    rw [if_neg e, if_neg e, xw32_id (x := 1 - s) (by omega) (by omega), grave_s E W r.1 r.2 (by omega) h0 h1, xB_s]
    by_cases g : xgr V (xnv V c s) (1 - s) h = 0
    · rw [if_pos g, if_neg (fun x => x g), xw32_id (x := 6 * xnv V c s) (by omega) (by omega), xw32_id (x := 6 * xnv V c s + 2) (by omega) (by omega), xA_p (by omega), likesOf_s E W r.1 r.2 (by omega) h0 h1, if_neg (show ¬ xnv V (xnv V c s) (1 - s) = -1 by omega), xB_s, ← et, xw32_id (by omega) (by omega)]
      congr 1
      by_cases x : xlk V (2 * xnv V c s + (1 - s)) h < V 3 (xnv V c s)
      · rw [if_pos (by omega), if_pos x]
      · rw [if_neg (by omega), if_neg x]
    · rw [if_neg g, if_pos g]
theorem xwo_7 {V : xM} {c s h : Int} (hn : xnv V c s ≠ -1) : (xwo V c s h = 7 ↔ xgr V c s h = 0 ∧ xlk V (2 * c + s) h < V 3 c) ∧ (xwo V c s h = 0 ↔ xgr V c s h = 0 ∧ ¬ xlk V (2 * c + s) h < V 3 c) := by
  have : xgr V c s h = 0 ∨ (3 ≤ xgr V c s h ∧ xgr V c s h ≤ 6) := by
    unfold xgr; rw [if_neg hn]; (repeat' split) <;> omega
  rw [xwo_gr]
  constructor
  · constructor
    · intro e; (repeat' split at e) <;> first | exact ⟨by assumption, by assumption⟩ | omega
    · rintro ⟨a, b⟩; rw [if_pos a, if_pos b]
  · constructor
    · intro e; (repeat' split at e) <;> first | exact ⟨by assumption, by assumption⟩ | omega
    · rintro ⟨a, b⟩; rw [if_pos a, if_neg b]
/-- one side of a price -/
def xp1 (V : xM) (c s h pm : Int) : Int := if pm = 0 then xps V c s h else if 0 < xps V c s h then 1 else 0
theorem price_step {M V : xM} {p c s h pm a : Int} (W : xWF V) (p2 : 2 ≤ V 0 0) (hv : xPv M p V) (c0 : 0 ≤ c) (c1 : c < V 0 0) (hs : s = 0 ∨ s = 1) (h0 : 0 ≤ h) (h1 : h < V 0 1) (a0 : 0 ≤ a) (a1 : a ≤ 9) (g : Nat) : fPrison_price_L6 (g + 1) p c h pm a s M = if xps V c s h = 1000000 then some (-1) else fPrison_price_L6 g p c h pm (a + xp1 V c s h pm) (s + 1) M := by
  have hN := W.1
  have hH := W.2.1
  rw [fPrison_price_L6, if_neg (by omega), refusal_s hv W c0 c1 hs h0 (by omega), xB_s, xw32_id (x := s + 1) (by omega) (by omega), nb_s hv W c0 c1, show xnb (V 0 0) (V 0 3) c s = xnv V c s from rfl]
  by_cases e : xnv V c s = -1
  · have z : xps V c s h = 0 := by unfold xps; rw [if_pos e]
    have z1 : xp1 V c s h pm = 0 := by unfold xp1; rw [z]; split <;> first | rfl | decide
    rw [if_pos e, if_neg (by decide), if_neg (by decide), z, if_neg (by decide), z1, Int.add_zero]
  · have r := xnv_rg c0 c1 e
    have iv := xnv_inv p2 c0 c1 hs e
    have n : xnv V (xnv V c s) (1 - s) ≠ -1 := by omega
    have t := (W.2.2.2.2.1 (xnv V c s) r.1 (by omega)).2.2.2.1
    have l := xlk_rg W (b := 2 * xnv V c s + (1 - s)) h (by omega) (by omega)
    obtain ⟨x7, x0⟩ := xwo_7 (h := h) n
    have w7 := xwo_rg (h := h) n
    rw [if_neg e, show xwy V (xnv V c s) (1 - s) h 0 = xwo V (xnv V c s) (1 - s) h from rfl, xPv_1 hv 3 (xnv V c s) (by decide) (by decide) r.1 (by omega), xw32_id (x := 2 * xnv V c s) (by omega) (by omega), xw32_id (x := 2 * xnv V c s + 1) (by omega) (by omega), xw32_id (x := 2 * xnv V c s + 1 - s) (by omega) (by omega), show 2 * xnv V c s + 1 - s = 2 * xnv V c s + (1 - s) by omega, liking_s h hv W (by omega) (by omega), xB_s, xA_p (by omega)]
    by_cases e7 : xwo V (xnv V c s) (1 - s) h = 7
    · obtain ⟨g0, lt⟩ := x7.mp e7
      have z : xps V c s h = V 3 (xnv V c s) - xlk V (2 * xnv V c s + (1 - s)) h := by unfold xps; rw [if_neg e, if_neg (fun x => x g0), if_pos lt]
      rw [if_pos e7, if_neg (show ¬ xps V c s h = 1000000 by omega), xw32_id (x := V 3 (xnv V c s) - xlk V (2 * xnv V c s + (1 - s)) h) (by omega) (by omega), xw32_id (x := a + (V 3 (xnv V c s) - xlk V (2 * xnv V c s + (1 - s)) h)) (by omega) (by omega), xw32_id (x := a + 1) (by omega) (by omega)]
      unfold xp1
      by_cases q : pm = 0
      · rw [if_pos q, if_pos q, z]
      · rw [if_neg q, if_neg q, if_pos (show 0 < xps V c s h by omega)]
    · rw [if_neg e7]
      by_cases e0 : xwo V (xnv V c s) (1 - s) h = 0
      · obtain ⟨g0, lt⟩ := x0.mp e0
        have z : xps V c s h = 0 := by unfold xps; rw [if_neg e, if_neg (fun x => x g0), if_neg lt]
        have z1 : xp1 V c s h pm = 0 := by unfold xp1; rw [z]; split <;> first | rfl | decide
        rw [if_neg (by omega), z, if_neg (by decide), z1, Int.add_zero]
      · have z : xps V c s h = 1000000 := by
          unfold xps
          rw [if_neg e, if_pos (fun g0 => ?_)]
          by_cases lt : xlk V (2 * xnv V c s + (1 - s)) h < V 3 (xnv V c s)
          · exact e7 (x7.mpr ⟨g0, lt⟩)
          · exact e0 (x0.mpr ⟨g0, lt⟩)
        rw [if_pos (by omega), if_pos z]
def xprc (V : xM) (c h pm : Int) : Int := if xps V c 0 h = 1000000 then -1 else if xps V c 1 h = 1000000 then -1 else xp1 V c 0 h pm + xp1 V c 1 h pm
theorem price_s {M V : xM} {p c h pm : Int} (W : xWF V) (p2 : 2 ≤ V 0 0) (hv : xPv M p V) (c0 : 0 ≤ c) (c1 : c < V 0 0) (h0 : 0 ≤ h) (h1 : h < V 0 1) : fPrison_price p c h pm M = some (xprc V c h pm) := by
  have r0 := xps_rg (h := h) W c0 c1 (Or.inl rfl)
  unfold fPrison_price xprc
  rw [price_step W p2 hv c0 c1 (Or.inl rfl) h0 h1 (by decide) (by decide) 20000]
  by_cases e : xps V c 0 h = 1000000
  · rw [if_pos e, if_pos e]
  · have b : 0 ≤ xp1 V c 0 h pm ∧ xp1 V c 0 h pm ≤ 9 := by unfold xp1; (repeat' split) <;> omega
    rw [if_neg e, if_neg e, price_step W p2 hv c0 c1 (s := 0 + 1) (Or.inr rfl) h0 h1 (by omega) (by omega) 19999]
    by_cases e1 : xps V c 1 h = 1000000
    · rw [if_pos (show xps V c (0 + 1) h = 1000000 from e1), if_pos e1]
    · rw [if_neg (show ¬ xps V c (0 + 1) h = 1000000 from e1), if_neg e1, fPrison_price_L6, if_pos (by decide), Int.zero_add]
      rfl
theorem flat_s {m V : xM} {c h : Int} (W : xWF V) (p2 : 2 ≤ V 0 0) (E : xEf m 310 V) (c0 : 0 ≤ c) (c1 : c < V 0 0) (h0 : 0 ≤ h) (h1 : h < V 0 1) : fQ_flatterOf 310 c h m = some (if xprc V c h 0 = -1 then 1000000 else xprc V c h 0) := by
  have r0 := xps_rg (h := h) W c0 c1 (Or.inl rfl)
  have r1 := xps_rg (h := h) W c0 c1 (Or.inr rfl)
  unfold fQ_flatterOf
  rw [points_s W p2 E c0 c1 (Or.inl rfl) h0 h1, xB_s, points_s W p2 E c0 c1 (Or.inr rfl) h0 h1, xB_s, xw32_id (by omega) (by omega)]
  congr 1
  unfold xprc xp1
  rw [if_pos rfl, if_pos rfl]
  (repeat' split) <;> omega
theorem call_31 {M : xM} (S : Sim M) (c h : Int) : xC1 (fD_flatter 1 c h M) (fQ_flatter 310 c h M) M := by
  obtain ⟨V, hv, W, Q, K, Q0, L⟩ := opn S
  have K1 := xKp_tr K (plainly_kp (xwr M 310 0 0))
  have Q1 := xQ0_kp Q0 (plainly_kp (xwr M 310 0 0))
  have P1 := (plainly_s 310 (xwr M 310 0 0)).1
  unfold fD_flatter fQ_flatter
  rw [hasCell_s, hasHour_s, qCell_s Q0 W, qHour_s Q0 W, xPv_0 hv 0 (by decide) (by decide), xPv_0 hv 1 (by decide) (by decide)]
  simp only [if10]
  by_cases h1 : 0 ≤ c ∧ c < V 0 0
  · rw [if_neg (not_not_intro h1), if_neg (not_not_intro h1)]
    by_cases h2 : 0 ≤ h ∧ h < V 0 1
    · have p2 := W2 W h1.1 h1.2
      have r0 := xps_rg (h := h) W.1 h1.1 h1.2 (Or.inl rfl)
      have r1 := xps_rg (h := h) W.1 h1.1 h1.2 (Or.inr rfl)
      have b : xprc V c h 0 < 100 := by unfold xprc xp1; rw [if_pos rfl, if_pos rfl]; (repeat' split) <;> omega
      rw [if_neg (not_not_intro h2), if_neg (not_not_intro h2), price_s W.1 p2 hv h1.1 h1.2 h2.1 h2.2, xB_s, flat_s W.1 p2 (xEf_pl Q1 W p2 P1) h1.1 h1.2 h2.1 h2.2, xB_s]
      refine xC1_eq rfl ?_ K1
      congr 2
      (repeat' split) <;> omega
    · rw [if_pos h2, if_pos h2]; exact xC1_eq rfl rfl K
  · rw [if_pos h1, if_pos h1]; exact xC1_eq rfl rfl K
/-- the first of the least below a bound -/
def xwn (f : Nat → Int) : Nat → Nat → Int → Int → Int
  | 0, _, best, _ => best
  | k + 1, i, best, least => if f i < least then xwn f k (i + 1) (i : Int) (f i) else xwn f k (i + 1) best least
def xfl (V : xM) (c : Int) (h : Nat) : Int := if xprc V c h 0 = -1 then 1000000 else xprc V c h 0
theorem xprc_rg {V : xM} {c h pm : Int} (W : xWF V) (c0 : 0 ≤ c) (c1 : c < V 0 0) : -1 ≤ xprc V c h pm ∧ xprc V c h pm ≤ 18 := by
  have r0 := xps_rg (h := h) W c0 c1 (Or.inl rfl)
  have r1 := xps_rg (h := h) W c0 c1 (Or.inr rfl)
  unfold xprc xp1
  (repeat' split) <;> omega
theorem whenD_L {M V : xM} {c : Int} (W : xWF V) (p2 : 2 ≤ V 0 0) (hv : xPv M (1 + 15) V) (c0 : 0 ≤ c) (c1 : c < V 0 0) : ∀ (n g i : Nat) (cheap first : Int), n < g → (i : Int) + n = V 0 1 → cheap ≤ 1000000 → fD_when_L21 g 1 c cheap first (i : Int) M = some (xwn (xfl V c) n i first (if first = -1 then 1000000 else cheap))
  | _, 0, _, _, _, hg, _, _ => absurd hg (Nat.not_lt_zero _)
  | 0, g + 1, i, cheap, first, _, hi, _ => by
    unfold fD_when_L21 xwn
    rw [xPv_0 hv 1 (by decide) (by decide), if_neg (by omega)]
  | n + 1, g + 1, i, cheap, first, hg, hi, hc => by
    have hH := W.2.1
    have r := xprc_rg (h := (i : Int)) (pm := 0) W c0 c1
    have ih := fun (a b : Int) (hb : a ≤ 1000000) => whenD_L W p2 hv c0 c1 n g (i + 1) a b (by omega) (by omega) hb
    rw [show ((i + 1 : Nat) : Int) = (i : Int) + 1 from rfl] at ih
    rw [fD_when_L21, xwn]
    rw [xPv_0 hv 1 (by decide) (by decide), if_pos (show (i : Int) < V 0 1 by omega), price_s W p2 hv c0 c1 (by omega) (by omega), xB_s, xw32_id (x := (i : Int) + 1) (by omega) (by omega)]
    by_cases e : xprc V c i 0 = -1
    · have f1 : xfl V c i = 1000000 := if_pos e
      rw [if_pos e, ih cheap first hc, f1, if_neg (show ¬ (1000000 < if first = -1 then 1000000 else cheap) by split <;> omega)]
    · have f1 : xfl V c i = xprc V c i 0 := if_neg e
      rw [if_neg e, f1]
      by_cases f : first = -1
      · rw [if_pos f, ih _ _ (by omega), if_pos f, if_neg (show ¬ (i : Int) = -1 by omega), if_pos (show xprc V c i 0 < 1000000 by omega)]
      · rw [if_neg f, if_neg f]
        by_cases g : xprc V c i 0 < cheap
        · rw [if_pos g, if_pos g, ih _ _ (by omega), if_neg (show ¬ (i : Int) = -1 by omega)]
        · rw [if_neg g, if_neg g, ih _ _ hc, if_neg f]
theorem whenQ_L {m V : xM} {c : Int} (W : xWF V) (p2 : 2 ≤ V 0 0) (E : xEf m 310 V) (c0 : 0 ≤ c) (c1 : c < V 0 0) : ∀ (n g i : Nat) (best least : Int), n < g → (i : Int) + n = V 0 1 → fQ_when_L29 g 310 c best least (i : Int) m = some (xwn (xfl V c) n i best least, m)
  | _, 0, _, _, _, hg, _ => absurd hg (Nat.not_lt_zero _)
  | 0, g + 1, i, best, least, _, hi => by
    unfold fQ_when_L29 xwn
    rw [E.1.2.1, if_neg (by omega)]
  | n + 1, g + 1, i, best, least, hg, hi => by
    have hH := W.2.1
    rw [fQ_when_L29, xwn]
    rw [E.1.2.1, if_pos (show (i : Int) < V 0 1 by omega), flat_s W p2 E c0 c1 (by omega) (by omega), xB_s, xw32_id (x := (i : Int) + 1) (by omega) (by omega)]
    show (if xfl V c i < least then _ else _) = _
    by_cases e : xfl V c i < least
    · rw [if_pos e, if_pos e]
      exact whenQ_L W p2 E c0 c1 n g (i + 1) _ _ (by omega) (by omega)
    · rw [if_neg e, if_neg e]
      exact whenQ_L W p2 E c0 c1 n g (i + 1) _ _ (by omega) (by omega)
theorem call_32 {M : xM} (S : Sim M) (c : Int) : xC1 (fD_when 1 c M) (fQ_when 310 c M) M := by
  obtain ⟨V, hv, W, Q, K, Q0, L⟩ := opn S
  have hH := W.1.2.1
  have K1 := xKp_tr K (plainly_kp (xwr M 310 0 0))
  have Q1 := xQ0_kp Q0 (plainly_kp (xwr M 310 0 0))
  have P1 := (plainly_s 310 (xwr M 310 0 0)).1
  unfold fD_when fQ_when
  rw [hasCell_s, qCell_s Q0 W, xPv_0 hv 0 (by decide) (by decide)]
  simp only [if10]
  by_cases h1 : 0 ≤ c ∧ c < V 0 0
  · have p2 := W2 W h1.1 h1.2
    have a := whenD_L (V := V) W.1 p2 hv h1.1 h1.2 (V 0 1).toNat 20001 0 (-1) (-1) (by omega) (by omega) (by decide)
    rw [if_pos rfl] at a
    rw [if_neg (not_not_intro h1), if_neg (not_not_intro h1)]
    exact xC1_eq a (whenQ_L (V := V) W.1 p2 (xEf_pl Q1 W p2 P1) h1.1 h1.2 (V 0 1).toNat 20001 0 (-1) 1000000 (by omega) (by omega)) K1
  · rw [if_pos h1, if_pos h1]; exact xC1_eq rfl rfl K
end
