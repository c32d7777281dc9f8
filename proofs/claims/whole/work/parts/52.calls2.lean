/-! calls, second batch: the plan and what comes of it -/
noncomputable section
theorem ahead_D {M V : xM} {k : Int} (C : xCs M k V) (h24 : V 0 1 ≤ 24) (h : Nat) (hh : (h : Int) ≤ V 0 1) : fCourse_goneAhead k h M = some (xgn V h) := by
  unfold fCourse_goneAhead
  cases h with
  | zero => rw [if_pos (by decide)]; rfl
  | succ n =>
    have := (C n (by omega)).2
    rw [if_neg (by omega), if_neg (by omega), xw32_id (by omega) (by omega), xA_p (by omega), show ((n + 1 : Nat) : Int) - 1 = (n : Int) by omega, this]
theorem ahead_Q {m V : xM} (hm : ∀ h : Nat, (h : Int) < V 0 1 → m (310 + 15) h = xcm V h ∧ m (310 + 16) h = xgn V (h + 1)) (h24 : V 0 1 ≤ 24) (h : Nat) (hh : (h : Int) ≤ V 0 1) : fQ_outAhead 310 h m = some (xgn V h) := by
  unfold fQ_outAhead
  cases h with
  | zero => rw [if_pos (by decide)]; rfl
  | succ n =>
    have := (hm n (by omega)).2
    rw [if_neg (by omega), xw32_id (by omega) (by omega), xA_p (by omega), show ((n + 1 : Nat) : Int) - 1 = (n : Int) by omega, this]
theorem xnv_rg {V : xM} {c s : Int} (c0 : 0 ≤ c) (c1 : c < V 0 0) (hn : xnv V c s ≠ -1) : 0 ≤ xnv V c s ∧ xnv V c s < V 0 0 := by
  have := xnb_rg (ring := V 0 3) (s := s) c0 c1
  unfold xnv at hn ⊢
  omega
theorem xnv_inv {V : xM} {c s : Int} (h2 : 2 ≤ V 0 0) (c0 : 0 ≤ c) (c1 : c < V 0 0) (hs : s = 0 ∨ s = 1) (hn : xnv V c s ≠ -1) : xnv V (xnv V c s) (1 - s) = c := xnb_inv h2 c0 c1 hs hn
theorem refusal_s {M V : xM} {p c s h g : Int} (hv : xPv M p V) (w : xWF V) (c0 : 0 ≤ c) (c1 : c < V 0 0) (hs : s = 0 ∨ s = 1) (h0 : 0 ≤ h) (h1 : h < 32) : fPrison_refusal p c s h g M = some (if xnv V c s = -1 then 1 else xwy V (xnv V c s) (1 - s) h g) := by
  unfold fPrison_refusal
  rw [nb_s hv w c0 c1]
  by_cases e : xnv V c s = -1
  · rw [if_pos e, if_pos (show xnb (V 0 0) (V 0 3) c s = -1 from e)]
  · have r := xnv_rg c0 c1 e
    rw [if_neg e, if_neg (show ¬ xnb (V 0 0) (V 0 3) c s = -1 from e), xw32_id (by omega) (by omega), show xnb (V 0 0) (V 0 3) c s = xnv V c s from rfl, why_s hv w r.1 r.2 (by omega) h0 h1, xB_s]
theorem xwy_g {V : xM} {c s h g : Int} (hn : xnv V c s ≠ -1) : xwy V c s h g = if (xbt g c && !xLy V c) = true then 2 else xwo V c s h := by
  have e : xnb (V 0 0) (V 0 3) c s ≠ -1 := hn
  unfold xwo xwy xLy
  rw [if_neg e, if_neg e, xbt_0]
  simp only [Bool.false_and, Bool.false_eq_true, if_false]
theorem xwo_rg {V : xM} {c s h : Int} (hn : xnv V c s ≠ -1) : xwo V c s h = 0 ∨ (3 ≤ xwo V c s h ∧ xwo V c s h ≤ 7) := by
  have e : xnb (V 0 0) (V 0 3) c s ≠ -1 := hn
  unfold xwo xwy
  rw [if_neg e, xbt_0]
  simp only [Bool.false_and, Bool.false_eq_true, if_false]
  (repeat' split) <;> omega
theorem turn_iff {V : xM} {c s h g : Int} (h2 : 2 ≤ V 0 0) (c0 : 0 ≤ c) (c1 : c < V 0 0) (hs : s = 0 ∨ s = 1) : (1 < (if xnv V c s = -1 then 1 else xwy V (xnv V c s) (1 - s) h g)) ↔ xtn V (fun _ => false) c s h g = false := by
  unfold xtn
  by_cases e : xnv V c s = -1
  · rw [if_pos e]; simp [e]
  · have n : xnv V (xnv V c s) (1 - s) ≠ -1 := by rw [xnv_inv h2 c0 c1 hs e]; omega
    rw [if_neg e, xwy_g n]
    have r := xwo_rg (h := h) n
    unfold xT
    rcases r with r | r
    · simp only [e, r, decide_false, Bool.false_or, decide_true, Bool.not_false, Bool.and_true, Bool.true_and]
      cases xbt g (xnv V c s) <;> cases xLy V (xnv V c s) <;> simp
    · have r2 : decide (xwo V (xnv V c s) (1 - s) h = 0) = false := decide_eq_false (by omega)
      rw [r2]
      simp only [e, decide_false, Bool.false_or, Bool.false_and, iff_true]
      split <;> omega
theorem call_13 {M : xM} (S : Sim M) (h : Int) : xC1 (fD_opens 1 h M) (fQ_opens 310 h M) M := by
  obtain ⟨V, hv, W, Q, K, Q0, L⟩ := opn S
  have hH := W.1.2.1
  unfold fD_opens fQ_opens
  rw [hasHour_s, qHour_s Q0 W, xPv_0 hv 1 (by decide) (by decide)]
  simp only [if10]
  by_cases h1 : 0 ≤ h ∧ h < V 0 1
  · have p2 := W2h W h1.1 h1.2
    obtain ⟨k, rfl⟩ := Int.eq_ofNat_of_zero_le h1.1
    rw [if_neg (not_not_intro h1), if_neg (not_not_intro h1), xA_p (by omega), ((L p2).2 k h1.2).1]
    refine xC1_Q rfl ?_
    refine xP_B (asTold_s Q0 W p2) ?_
    rintro m ⟨k1, E, D, P, hm⟩
    rw [xA_p (by omega)]
    exact xP_some ⟨(hm k h1.2).1, xKp_tr K k1⟩
  · rw [if_pos h1, if_pos h1]; exact xC1_eq rfl rfl K
theorem call_16 {M : xM} (S : Sim M) (h : Int) : xC1 (fD_out 1 h M) (fQ_out 310 h M) M := by
  obtain ⟨V, hv, W, Q, K, Q0, L⟩ := opn S
  have hH := W.1.2.1
  unfold fD_out fQ_out
  rw [hasHour_s, qHour_s Q0 W, xPv_0 hv 1 (by decide) (by decide)]
  simp only [if10]
  by_cases h1 : 0 ≤ h ∧ h < V 0 1
  · have p2 := W2h W h1.1 h1.2
    obtain ⟨k, rfl⟩ := Int.eq_ofNat_of_zero_le h1.1
    rw [if_neg (not_not_intro h1), if_neg (not_not_intro h1), xA_p (by omega), ((L p2).2 k h1.2).2]
    refine xC1_Q rfl ?_
    refine xP_B (asTold_s Q0 W p2) ?_
    rintro m ⟨k1, E, D, P, hm⟩
    rw [xA_p (by omega)]
    exact xP_some ⟨(hm k h1.2).2, xKp_tr K k1⟩
  · rw [if_pos h1, if_pos h1]; exact xC1_eq rfl rfl K
theorem qplan {m V : xM} (Q : xQ0 m 310 0 V) {h : Int} (h0 : 0 ≤ h) (h1 : h < 24) : m (310 + 11) h = V 10 h := by
  have := Q.1.2.2.2.2.2 h h0 h1
  rwa [show 24 * (0 : Int) + h = h by omega] at this
theorem call_14 {M : xM} (S : Sim M) (h : Int) : xC1 (fD_why 1 h M) (fQ_why 310 h M) M := by
  obtain ⟨V, hv, W, Q, K, Q0, L⟩ := opn S
  have hN := W.1.1
  have hH := W.1.2.1
  unfold fD_why fQ_why
  rw [hasHour_s, qHour_s Q0 W, xPv_0 hv 1 (by decide) (by decide)]
  simp only [if10]
  by_cases h1 : 0 ≤ h ∧ h < V 0 1
  · have p2 := W2h W h1.1 h1.2
    obtain ⟨k, rfl⟩ := Int.eq_ofNat_of_zero_le h1.1
    rw [if_neg (not_not_intro h1), if_neg (not_not_intro h1), xA_p (by omega), ahead_D (L p2).2 hH.2 k (by omega), xB_s, xPv_10 hv (k : Int) (by omega) (by omega)]
    refine xC1_of (A := fun r => r = if V 10 (k : Int) = -1 then 1 else if xbt (xgn V k) (V 10 (k : Int)) = true then 2 else if xtn V (fun _ => false) (V 10 (k : Int)) 0 k (xgn V k) = false then 3 else if xtn V (fun _ => false) (V 10 (k : Int)) 1 k (xgn V k) = false then 4 else 0) ?_ ?_ (fun r s a b => a.trans b.symm)
    · by_cases e : V 10 (k : Int) = -1
      · rw [if_pos e]; exact xP_some (by rw [if_pos e])
      · have c := xplan W h1.1 (by omega) e
        rw [if_neg e, fD_bit_s _ M c.1 (by omega)]
        by_cases e2 : xbt (xgn V k) (V 10 (k : Int)) = true
        · rw [if_pos ((xif10 _).mpr e2)]; exact xP_some (by rw [if_neg e, if_pos e2])
        · rw [if_neg (fun x => e2 ((xif10 _).mp x)), refusal_s hv W.1 c.1 c.2 (Or.inl rfl) (by omega) (by omega), xB_s, refusal_s hv W.1 c.1 c.2 (Or.inr rfl) (by omega) (by omega), xB_s]
          have t0 := turn_iff (h := (k : Int)) (g := xgn V k) p2 c.1 c.2 (Or.inl rfl)
          have t1 := turn_iff (h := (k : Int)) (g := xgn V k) p2 c.1 c.2 (Or.inr rfl)
          by_cases e3 : xtn V (fun _ => false) (V 10 (k : Int)) 0 k (xgn V k) = false
          · rw [if_pos (t0.mpr e3)]; exact xP_some (by rw [if_neg e, if_neg e2, if_pos e3])
          · rw [if_neg (fun x => e3 (t0.mp x))]
            refine xP_some ?_
            rw [if_neg e, if_neg e2, if_neg e3]
            by_cases e4 : xtn V (fun _ => false) (V 10 (k : Int)) 1 k (xgn V k) = false
            · rw [if_pos (t1.mpr e4), if_pos e4]
            · rw [if_neg (fun x => e4 (t1.mp x)), if_neg e4]
    · refine xP_B (asTold_s Q0 W p2) ?_
      rintro m ⟨k1, E, D, P, hm⟩
      have hm : ∀ h : Nat, (h : Int) < V 0 1 → m (310 + 15) h = xcm V h ∧ m (310 + 16) h = xgn V (h + 1) := hm
      have kk := xKp_tr K k1
      rw [xA_p (by omega), qplan (xQ0_kp Q0 k1) (by omega) (by omega)]
      by_cases e : V 10 (k : Int) = -1
      · rw [if_pos e]; exact xP_some ⟨by rw [if_pos e], kk⟩
      · have c := xplan W h1.1 (by omega) e
        rw [if_neg e, ahead_Q hm hH.2 k (by omega), xB_s, fQ_isBit_s _ m c.1 (by omega)]
        by_cases e2 : xbt (xgn V k) (V 10 (k : Int)) = true
        · rw [if_neg (by rw [if_pos e2]; decide)]; exact xP_some ⟨by rw [if_neg e, if_pos e2], kk⟩
        · rw [if_pos (by rw [if_neg e2]), xB_s, turns_s E D W.1 c.1 c.2 (Or.inl rfl) (by omega) h1.2, xB_s]
          cases e3 : xtn V (fun _ => false) (V 10 (k : Int)) 0 k (xgn V k)
          · rw [if_pos (by rfl)]; exact xP_some ⟨by rw [if_neg e, if_neg e2, if_pos rfl], kk⟩
          · rw [if_neg (by decide), xB_s, turns_s E D W.1 c.1 c.2 (Or.inr rfl) (by omega) h1.2, xB_s]
            refine xP_some ⟨?_, kk⟩
            rw [if_neg e, if_neg e2, if_neg (show ¬ (true = false) by decide)]
            cases xtn V (fun _ => false) (V 10 (k : Int)) 1 k (xgn V k) <;> rfl
  · rw [if_pos h1, if_pos h1]; exact xC1_eq rfl rfl K
theorem call_15 {M : xM} (S : Sim M) (h s : Int) : xC1 (fD_because 1 h s M) (fQ_because 310 h s M) M := by
  obtain ⟨V, hv, W, Q, K, Q0, L⟩ := opn S
  have hN := W.1.1
  have hH := W.1.2.1
  unfold fD_because fQ_because
  rw [hasHour_s, qHour_s Q0 W, xPv_0 hv 1 (by decide) (by decide), isSide_s, qSide_s]
  simp only [if10]
  by_cases h1 : 0 ≤ h ∧ h < V 0 1
  · rw [if_neg (not_not_intro h1), if_neg (not_not_intro h1)]
    by_cases h2 : s = 0 ∨ s = 1
    · have p2 := W2h W h1.1 h1.2
      obtain ⟨k, rfl⟩ := Int.eq_ofNat_of_zero_le h1.1
      rw [if_neg (not_not_intro h2), if_neg (not_not_intro h2), xA_p (by omega), ahead_D (L p2).2 hH.2 k (by omega), xB_s, xPv_10 hv (k : Int) (by omega) (by omega)]
      refine xC1_of (A := fun r => r = if V 10 (k : Int) = -1 then -1 else if xbt (xgn V k) (V 10 (k : Int)) = true then -1 else if xnv V (V 10 (k : Int)) s = -1 then 1 else xwy V (xnv V (V 10 (k : Int)) s) (1 - s) k (xgn V k)) ?_ ?_ (fun r s a b => a.trans b.symm)
      · by_cases e : V 10 (k : Int) = -1
        · rw [if_pos e]; exact xP_some (by rw [if_pos e])
        · have c := xplan W h1.1 (by omega) e
          rw [if_neg e, fD_bit_s _ M c.1 (by omega)]
          by_cases e2 : xbt (xgn V k) (V 10 (k : Int)) = true
          · rw [if_pos ((xif10 _).mpr e2)]; exact xP_some (by rw [if_neg e, if_pos e2])
          · rw [if_neg (fun x => e2 ((xif10 _).mp x)), refusal_s hv W.1 c.1 c.2 h2 (by omega) (by omega), xB_s]
            exact xP_some (by rw [if_neg e, if_neg e2])
      · refine xP_B (asTold_s Q0 W p2) ?_
        rintro m ⟨k1, E, D, P, hm⟩
        have hm : ∀ h : Nat, (h : Int) < V 0 1 → m (310 + 15) h = xcm V h ∧ m (310 + 16) h = xgn V (h + 1) := hm
        have kk := xKp_tr K k1
        rw [xA_p (by omega), qplan (xQ0_kp Q0 k1) (by omega) (by omega)]
        by_cases e : V 10 (k : Int) = -1
        · rw [if_pos e]; exact xP_some ⟨by rw [if_pos e], kk⟩
        · have c := xplan W h1.1 (by omega) e
          rw [if_neg e, ahead_Q hm hH.2 k (by omega), xB_s, fQ_isBit_s _ m c.1 (by omega)]
          by_cases e2 : xbt (xgn V k) (V 10 (k : Int)) = true
          · rw [if_neg (by rw [if_pos e2]; decide)]; exact xP_some ⟨by rw [if_neg e, if_pos e2], kk⟩
          · rw [if_pos (by rw [if_neg e2]), besideV E W.1 c.1 c.2 h2, xB_s]
            by_cases e3 : xnv V (V 10 (k : Int)) s = -1
            · rw [if_pos e3]; exact xP_some ⟨by rw [if_neg e, if_neg e2, if_pos e3], kk⟩
            · have r := xnv_rg c.1 c.2 e3
              have n : xnv V (xnv V (V 10 (k : Int)) s) (1 - s) ≠ -1 := by rw [xnv_inv p2 c.1 c.2 h2 e3]; exact e
              rw [if_neg e3, xB_s, fQ_isBit_s _ m r.1 (by omega), xw32_id (by omega) (by omega), reason_s E W.1 r.1 r.2 (by omega) (by omega) h1.2, xB_s, loyal_s E W.1 r.1 r.2, xB_s]
              have fin : ∀ x : Int, (x = if (xbt (xgn V k) (xnv V (V 10 (k : Int)) s) && !xLy V (xnv V (V 10 (k : Int)) s)) = true then 2 else xwo V (xnv V (V 10 (k : Int)) s) (1 - s) k) → x = (if V 10 (k : Int) = -1 then -1 else if xbt (xgn V k) (V 10 (k : Int)) = true then -1 else if xnv V (V 10 (k : Int)) s = -1 then 1 else xwy V (xnv V (V 10 (k : Int)) s) (1 - s) k (xgn V k)) := fun x hx => by rw [if_neg e, if_neg e2, if_neg e3, xwy_g n]; exact hx
              cases hb : xbt (xgn V k) (xnv V (V 10 (k : Int)) s)
              · rw [if_pos (by rfl)]; exact xP_some ⟨fin _ (by simp [hb]), kk⟩
              · rw [if_neg (by decide)]
                cases hl : xLy V (xnv V (V 10 (k : Int)) s)
                · rw [if_pos (by rfl)]; exact xP_some ⟨fin _ (by simp [hb, hl]), kk⟩
                · rw [if_neg (by decide)]; exact xP_some ⟨fin _ (by simp [hb, hl]), kk⟩
    · rw [if_pos h2, if_pos h2]; exact xC1_eq rfl rfl K
  · rw [if_pos h1, if_pos h1]; exact xC1_eq rfl rfl K
/-- the first i with p, of k from i on -/
def xff (p : Nat → Bool) : Nat → Nat → Int
  | 0, _ => -1
  | k + 1, i => if p i = true then (i : Int) else xff p k (i + 1)
theorem freeD_L {V M : xM} {c : Int} (hv1 : M (1 + 15) 1 = V 0 1) (h24 : V 0 1 ≤ 24) (C : xCs M (1 + 255) V) : ∀ (n g i : Nat), n < g → (i : Int) + n = V 0 1 → fD_free_L16 g 1 c (i : Int) M = some (xff (fun h => decide (xcm V h = c)) n i)
  | _, 0, _, hg, _ => absurd hg (Nat.not_lt_zero _)
  | 0, g + 1, i, _, hi => by
    unfold fD_free_L16 xff
    rw [hv1, if_neg (by omega)]
  | n + 1, g + 1, i, hg, hi => by
    rw [fD_free_L16, xff]
    rw [hv1, if_pos (by omega), xA_p (by omega), (C i (by omega)).1, xw32_id (x := (i : Int) + 1) (by omega) (by omega)]
    by_cases e : xcm V i = c
    · rw [if_pos e, if_pos (decide_eq_true e)]
    · rw [if_neg e, if_neg (by simpa using e)]
      exact freeD_L hv1 h24 C n g (i + 1) (by omega) (by omega)
theorem freeQ_L {V m : xM} {c : Int} (hv1 : m (310 + 7) 1 = V 0 1) (h24 : V 0 1 ≤ 24) (hm : ∀ h : Nat, (h : Int) < V 0 1 → m (310 + 15) h = xcm V h ∧ m (310 + 16) h = xgn V (h + 1)) : ∀ (n g i : Nat), n < g → (i : Int) + n = V 0 1 → fQ_free_L23 g 310 c (i : Int) m = some (xff (fun h => decide (xcm V h = c)) n i, m)
  | _, 0, _, hg, _ => absurd hg (Nat.not_lt_zero _)
  | 0, g + 1, i, _, hi => by
    unfold fQ_free_L23 xff
    rw [hv1, if_neg (by omega)]
  | n + 1, g + 1, i, hg, hi => by
    rw [fQ_free_L23, xff]
    rw [hv1, if_pos (by omega), xA_p (by omega), (hm i (by omega)).1, xw32_id (x := (i : Int) + 1) (by omega) (by omega)]
    by_cases e : xcm V i = c
    · rw [if_pos e, if_pos (decide_eq_true e)]
    · rw [if_neg e, if_neg (by simpa using e)]
      exact freeQ_L hv1 h24 hm n g (i + 1) (by omega) (by omega)
theorem call_17 {M : xM} (S : Sim M) (c : Int) : xC1 (fD_free 1 c M) (fQ_free 310 c M) M := by
  obtain ⟨V, hv, W, Q, K, Q0, L⟩ := opn S
  have hH := W.1.2.1
  unfold fD_free fQ_free
  rw [hasCell_s, qCell_s Q0 W, xPv_0 hv 0 (by decide) (by decide)]
  simp only [if10]
  by_cases h1 : 0 ≤ c ∧ c < V 0 0
  · have p2 := W2 W h1.1 h1.2
    rw [if_neg (not_not_intro h1), if_neg (not_not_intro h1)]
    refine xC1_Q (freeD_L (V := V) (xPv_0 hv 1 (by decide) (by decide)) hH.2 (L p2).2 (V 0 1).toNat 20001 0 (by omega) (by omega)) ?_
    refine xP_B (asTold_s Q0 W p2) ?_
    rintro m ⟨k1, E, D, P, hm⟩
    exact xP_of (freeQ_L (V := V) E.1.2.1 hH.2 hm (V 0 1).toNat 20001 0 (by omega) (by omega)) ⟨rfl, xKp_tr K k1⟩
  · rw [if_pos h1, if_pos h1]; exact xC1_eq rfl rfl K
def xsm (f : Nat → Int) : Nat → Nat → Int → Int
  | 0, _, a => a
  | k + 1, i, a => xsm f k (i + 1) (a + f i)
theorem xcm_rg {V : xM} (w : xWE V) {h : Nat} (hh : (h : Int) < V 0 1) (hn : xcm V h ≠ -1) : 0 ≤ xcm V h ∧ xcm V h < V 0 0 := by
  unfold xcm at hn ⊢
  split at hn
  · next x => rw [if_pos x]; exact xplan w (by omega) hh x.1
  · exact absurd rfl hn
theorem xnv_ne {V : xM} (w : xWE V) {c x : Int} (h2 : 2 ≤ V 0 0) (c0 : 0 ≤ c) (c1 : c < V 0 0) (e0 : xnv V c 0 = x) (e1 : xnv V c 1 = x) (hx : 0 ≤ x) : False := by
  have r := w.2.2.1
  have q := w.1.2.2.1
  unfold xnv xnb at e0 e1
  (repeat' split at e0) <;> (repeat' split at e1) <;> omega
theorem turnedD_L {V M : xM} {c : Int} (W : xWE V) (p2 : 2 ≤ V 0 0) (hv1 : M (1 + 15) 1 = V 0 1) (C : xCs M (1 + 255) V) (k : xKO M (1 + 37 + 1) V) (c0 : 0 ≤ c) (c1 : c < V 0 0) : ∀ (n g i : Nat) (a : Int), n < g → (i : Int) + n = V 0 1 → 0 ≤ a → a ≤ i → fD_turned_L18 g 1 c a (i : Int) M = some (xsm (fun h => if xcm V h ≠ -1 ∧ (xnv V (xcm V h) 0 = c ∨ xnv V (xcm V h) 1 = c) then 1 else 0) n i a)
  | _, 0, _, _, hg, _, _, _ => absurd hg (Nat.not_lt_zero _)
  | 0, g + 1, i, a, _, hi, _, _ => by
    unfold fD_turned_L18 xsm
    rw [hv1, if_neg (by omega)]
  | n + 1, g + 1, i, a, hg, hi, a0, a1 => by
    have hN := W.1.1
    have hH := W.1.2.1
    rw [fD_turned_L18, xsm]
    rw [hv1, if_pos (by omega), xA_p (by omega), (C i (by omega)).1, xw32_id (x := (i : Int) + 1) (by omega) (by omega)]
    by_cases e : xcm V i = -1
    · rw [if_pos e, if_neg (fun x => x.1 e), Int.add_zero]
      exact turnedD_L W p2 hv1 C k c0 c1 n g (i + 1) a (by omega) (by omega) a0 (by omega)
    · have r := xcm_rg W (by omega) e
      rw [if_neg e, xA_p (by omega), fD_bit_s _ M c0 (by omega), (k.2.2.2 _ r.1 r.2).2.2.1 c c0 (by omega)]
      by_cases x : xnv V (xcm V i) 0 = c ∨ xnv V (xcm V i) 1 = c
      · have : xN2 V (xcm V i) c = true := by unfold xN2; rcases x with x | x <;> simp [x]
        rw [this, if_pos (by rfl), if_pos ⟨e, x⟩, xw32_id (by omega) (by omega)]
        exact turnedD_L W p2 hv1 C k c0 c1 n g (i + 1) _ (by omega) (by omega) (by omega) (by omega)
      · have : xN2 V (xcm V i) c = false := by
          unfold xN2
          rw [decide_eq_false (fun y => x (Or.inl y.symm)), decide_eq_false (fun y => x (Or.inr y.symm))]; rfl
        rw [this, if_neg (by decide), if_neg (fun y => x y.2), Int.add_zero]
        exact turnedD_L W p2 hv1 C k c0 c1 n g (i + 1) a (by omega) (by omega) a0 (by omega)
theorem turnedQ_L {V m : xM} {c : Int} (W : xWE V) (p2 : 2 ≤ V 0 0) (E : xEf m 310 V) (hm : ∀ h : Nat, (h : Int) < V 0 1 → m (310 + 15) h = xcm V h ∧ m (310 + 16) h = xgn V (h + 1)) (c0 : 0 ≤ c) : ∀ (n g i : Nat) (a : Int), n < g → (i : Int) + n = V 0 1 → 0 ≤ a → a ≤ i → fQ_turned_L25 g 310 c a (i : Int) m = some (xsm (fun h => if xcm V h ≠ -1 ∧ (xnv V (xcm V h) 0 = c ∨ xnv V (xcm V h) 1 = c) then 1 else 0) n i a, m)
  | _, 0, _, _, hg, _, _, _ => absurd hg (Nat.not_lt_zero _)
  | 0, g + 1, i, a, _, hi, _, _ => by
    unfold fQ_turned_L25 xsm
    rw [E.1.2.1, if_neg (by omega)]
  | n + 1, g + 1, i, a, hg, hi, a0, a1 => by
    have hN := W.1.1
    have hH := W.1.2.1
    rw [fQ_turned_L25, xsm]
    rw [E.1.2.1, if_pos (by omega)]
    rw [fQ_turned_L38, if_pos (by decide), xA_p (by omega), (hm i (by omega)).1, xw32_id (x := (0 : Int) + 1) (by decide) (by decide)]
    by_cases e : xcm V i = -1
    · rw [if_pos e, fQ_turned_L38, if_pos (by decide), xA_p (by omega), (hm i (by omega)).1, if_pos e, xw32_id (x := (0 : Int) + 1 + 1) (by decide) (by decide), fQ_turned_L38, if_neg (by decide), Int.add_zero, Int.add_zero, xw32_id (x := a) (by omega) (by omega), xw32_id (x := a) (by omega) (by omega), xw32_id (x := (i : Int) + 1) (by omega) (by omega), if_neg (fun x => x.1 e), Int.add_zero]
      exact turnedQ_L W p2 E hm c0 n g (i + 1) a (by omega) (by omega) a0 (by omega)
    · have r := xcm_rg W (by omega) e
      have ne := fun e0 e1 => xnv_ne (x := c) W p2 r.1 r.2 e0 e1 c0
      rw [if_neg e, xA_p (by omega), besideV E W.1 r.1 r.2 (Or.inl rfl), xB_s]
      by_cases x : xnv V (xcm V i) 0 = c
      · rw [if_pos x, fQ_turned_L38, if_pos (by decide), xA_p (by omega), (hm i (by omega)).1, if_neg e, xA_p (by omega), besideV E W.1 r.1 r.2 (s := 0 + 1) (Or.inr rfl), xB_s, if_neg (show ¬ xnv V (xcm V i) (0 + 1) = c from fun y => ne x y), xw32_id (x := (0 : Int) + 1 + 1) (by decide) (by decide), fQ_turned_L38, if_neg (by decide), xw32_id (x := a + 1) (by omega) (by omega), Int.add_zero, xw32_id (x := a + 1) (by omega) (by omega), xw32_id (x := (i : Int) + 1) (by omega) (by omega), if_pos ⟨e, Or.inl x⟩]
        exact turnedQ_L W p2 E hm c0 n g (i + 1) _ (by omega) (by omega) (by omega) (by omega)
      · rw [if_neg x, fQ_turned_L38, if_pos (by decide), xA_p (by omega), (hm i (by omega)).1, if_neg e, xA_p (by omega), besideV E W.1 r.1 r.2 (s := 0 + 1) (Or.inr rfl), xB_s, Int.add_zero, xw32_id (x := a) (by omega) (by omega)]
        by_cases y : xnv V (xcm V i) (0 + 1) = c
        · rw [if_pos y, xw32_id (x := (0 : Int) + 1 + 1) (by decide) (by decide), fQ_turned_L38, if_neg (by decide), xw32_id (x := a + 1) (by omega) (by omega), xw32_id (x := (i : Int) + 1) (by omega) (by omega), if_pos ⟨e, Or.inr y⟩]
          exact turnedQ_L W p2 E hm c0 n g (i + 1) _ (by omega) (by omega) (by omega) (by omega)
        · rw [if_neg y, xw32_id (x := (0 : Int) + 1 + 1) (by decide) (by decide), fQ_turned_L38, if_neg (by decide), Int.add_zero, xw32_id (x := a) (by omega) (by omega), xw32_id (x := (i : Int) + 1) (by omega) (by omega), if_neg (fun z => z.2.elim x y), Int.add_zero]
          exact turnedQ_L W p2 E hm c0 n g (i + 1) a (by omega) (by omega) a0 (by omega)
theorem call_18 {M : xM} (S : Sim M) (c : Int) : xC1 (fD_turned 1 c M) (fQ_turned 310 c M) M := by
  obtain ⟨V, hv, W, Q, K, Q0, L⟩ := opn S
  have hH := W.1.2.1
  unfold fD_turned fQ_turned
  rw [hasCell_s, qCell_s Q0 W, xPv_0 hv 0 (by decide) (by decide)]
  simp only [if10]
  by_cases h1 : 0 ≤ c ∧ c < V 0 0
  · have p2 := W2 W h1.1 h1.2
    rw [if_neg (not_not_intro h1), if_neg (not_not_intro h1)]
    refine xC1_Q (turnedD_L (V := V) W p2 (xPv_0 hv 1 (by decide) (by decide)) (L p2).2 (L p2).1.1 h1.1 h1.2 (V 0 1).toNat 20001 0 0 (by omega) (by omega) (by decide) (by decide)) ?_
    refine xP_B (asTold_s Q0 W p2) ?_
    rintro m ⟨k1, E, D, P, hm⟩
    exact xP_of (turnedQ_L (V := V) W p2 E hm h1.1 (V 0 1).toNat 20001 0 0 (by omega) (by omega) (by decide) (by decide)) ⟨rfl, xKp_tr K k1⟩
  · rw [if_pos h1, if_pos h1]; exact xC1_eq rfl rfl K
theorem call_19 {M : xM} (S : Sim M) (h s : Int) : xC1 (fD_wrist 1 h s M) (fQ_wrist 310 h s M) M := by
  obtain ⟨V, hv, W, Q, K, Q0, L⟩ := opn S
  have hH := W.1.2.1
  unfold fD_wrist fQ_wrist
  rw [hasHour_s, qHour_s Q0 W, xPv_0 hv 1 (by decide) (by decide), isSide_s, qSide_s]
  simp only [if10]
  by_cases h1 : 0 ≤ h ∧ h < V 0 1
  · rw [if_neg (not_not_intro h1), if_neg (not_not_intro h1)]
    by_cases h2 : s = 0 ∨ s = 1
    · have p2 := W2h W h1.1 h1.2
      obtain ⟨k, rfl⟩ := Int.eq_ofNat_of_zero_le h1.1
      rw [if_neg (not_not_intro h2), if_neg (not_not_intro h2), xA_p (by omega), ((L p2).2 k h1.2).1]
      refine xC1_of (A := fun r => r = if xcm V k = -1 then -1 else xnv V (xcm V k) s) ?_ ?_ (fun r s a b => a.trans b.symm)
      · by_cases e : xcm V k = -1
        · rw [if_pos e]; exact xP_some (by rw [if_pos e])
        · have r := xcm_rg W (by omega) e
          rw [if_neg e, nb_s hv W.1 r.1 r.2]
          exact xP_some (by rw [if_neg e]; rfl)
      · refine xP_B (asTold_s Q0 W p2) ?_
        rintro m ⟨k1, E, D, P, hm⟩
        have hm : ∀ h : Nat, (h : Int) < V 0 1 → m (310 + 15) h = xcm V h ∧ m (310 + 16) h = xgn V (h + 1) := hm
        rw [xA_p (by omega), (hm k h1.2).1]
        by_cases e : xcm V k = -1
        · rw [if_pos e]; exact xP_some ⟨by rw [if_pos e], xKp_tr K k1⟩
        · have r := xcm_rg W (by omega) e
          rw [if_neg e, xA_p (by omega), besideV E W.1 r.1 r.2 h2, xB_s]
          exact xP_some ⟨by rw [if_neg e], xKp_tr K k1⟩
    · rw [if_pos h2, if_pos h2]; exact xC1_eq rfl rfl K
  · rw [if_pos h1, if_pos h1]; exact xC1_eq rfl rfl K
theorem vainD_L {V M : xM} (h24 : V 0 1 ≤ 24) (hv : xPv M (1 + 15) V) (C : xCs M (1 + 255) V) : ∀ (n g i : Nat) (a : Int), n < g → (i : Int) + n = V 0 1 → 0 ≤ a → a ≤ i → fD_vain_L17 g 1 a (i : Int) M = some (xsm (fun h => if V 10 (h : Int) ≠ -1 ∧ xcm V h = -1 then 1 else 0) n i a)
  | _, 0, _, _, hg, _, _, _ => absurd hg (Nat.not_lt_zero _)
  | 0, g + 1, i, a, _, hi, _, _ => by
    unfold fD_vain_L17 xsm
    rw [xPv_0 hv 1 (by decide) (by decide), if_neg (by omega)]
  | n + 1, g + 1, i, a, hg, hi, a0, a1 => by
    rw [fD_vain_L17, xsm]
    rw [xPv_0 hv 1 (by decide) (by decide), if_pos (by omega), xA_p (by omega), xPv_10 hv (i : Int) (by omega) (by omega), (C i (by omega)).1, xw32_id (x := (i : Int) + 1) (by omega) (by omega)]
    by_cases e : V 10 (i : Int) = -1
    · rw [if_pos e, if_neg (fun x => x.1 e), Int.add_zero]
      exact vainD_L h24 hv C n g (i + 1) a (by omega) (by omega) a0 (by omega)
    · rw [if_neg e, xA_p (by omega)]
      by_cases x : xcm V i = -1
      · rw [if_pos x, if_pos ⟨e, x⟩, xw32_id (by omega) (by omega)]
        exact vainD_L h24 hv C n g (i + 1) _ (by omega) (by omega) (by omega) (by omega)
      · rw [if_neg x, if_neg (fun y => x y.2), Int.add_zero]
        exact vainD_L h24 hv C n g (i + 1) a (by omega) (by omega) a0 (by omega)
theorem vainQ_L {V m : xM} (h24 : V 0 1 ≤ 24) (hv1 : m (310 + 7) 1 = V 0 1) (Q : xQ0 m 310 0 V) (hm : ∀ h : Nat, (h : Int) < V 0 1 → m (310 + 15) h = xcm V h ∧ m (310 + 16) h = xgn V (h + 1)) : ∀ (n g i : Nat) (a : Int), n < g → (i : Int) + n = V 0 1 → 0 ≤ a → a ≤ i → fQ_vain_L23 g 310 a (i : Int) m = some (xsm (fun h => if V 10 (h : Int) ≠ -1 ∧ xcm V h = -1 then 1 else 0) n i a, m)
  | _, 0, _, _, hg, _, _, _ => absurd hg (Nat.not_lt_zero _)
  | 0, g + 1, i, a, _, hi, _, _ => by
    unfold fQ_vain_L23 xsm
    rw [hv1, if_neg (by omega)]
  | n + 1, g + 1, i, a, hg, hi, a0, a1 => by
    rw [fQ_vain_L23, xsm]
    rw [hv1, if_pos (by omega), xA_p (by omega), qplan Q (by omega) (by omega), (hm i (by omega)).1, xw32_id (x := (i : Int) + 1) (by omega) (by omega), Int.add_zero, xw32_id (x := a) (by omega) (by omega)]
    by_cases e : V 10 (i : Int) = -1
    · rw [if_pos e, if_neg (fun x => x.1 e), Int.add_zero]
      exact vainQ_L h24 hv1 Q hm n g (i + 1) a (by omega) (by omega) a0 (by omega)
    · rw [if_neg e, xA_p (by omega)]
      by_cases x : xcm V i = -1
      · rw [if_pos x, if_pos ⟨e, x⟩, xw32_id (by omega) (by omega)]
        exact vainQ_L h24 hv1 Q hm n g (i + 1) _ (by omega) (by omega) (by omega) (by omega)
      · rw [if_neg x, if_neg (fun y => x y.2), Int.add_zero]
        exact vainQ_L h24 hv1 Q hm n g (i + 1) a (by omega) (by omega) a0 (by omega)
theorem call_20 {M : xM} (S : Sim M) : xC1 (fD_vain 1 M) (fQ_vain 310 M) M := by
  obtain ⟨V, hv, W, Q, K, Q0, L⟩ := opn S
  have hH := W.1.2.1
  unfold fD_vain fQ_vain
  rw [stands_s, qPrison_s Q0 W, xPv_0 hv 0 (by decide) (by decide)]
  simp only [if10]
  by_cases h1 : 0 < V 0 0
  · have p2 := W2p W h1
    rw [if_neg (not_not_intro h1), if_neg (not_not_intro h1)]
    refine xC1_Q (vainD_L (V := V) hH.2 hv (L p2).2 (V 0 1).toNat 20001 0 0 (by omega) (by omega) (by decide) (by decide)) ?_
    refine xP_B (asTold_s Q0 W p2) ?_
    rintro m ⟨k1, E, D, P, hm⟩
    exact xP_of (vainQ_L (V := V) hH.2 E.1.2.1 (xQ0_kp Q0 k1) hm (V 0 1).toNat 20001 0 0 (by omega) (by omega) (by decide) (by decide)) ⟨rfl, xKp_tr K k1⟩
  · rw [if_pos h1, if_pos h1]; exact xC1_eq rfl rfl K
end
