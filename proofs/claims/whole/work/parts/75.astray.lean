/-! astray -/
noncomputable section
theorem gn_can {V : xM} (w : xWE V) : ∀ h : Nat, (h : Int) ≤ V 0 1 → xcan V h (xgn V h)
  | 0, _ => rfl
  | h + 1, hh => by
    have ih := gn_can w h (by omega)
    unfold xgn
    by_cases e : V 10 (h : Int) ≠ -1 ∧ xop V (V 10 (h : Int)) (h : Int) (xgn V h) = true
    · rw [if_pos e]
      have p := xplan w (h := (h : Int)) (by omega) (by omega) e.1
      exact Or.inr ⟨_, _, p.1, p.2, ih, e.2, rfl⟩
    · rw [if_neg e]; exact Or.inl ih
def xal (V : xM) (h : Nat) : Bool := xdc (¬ xPw V (xmm V) ((V 0 1).toNat - (h + 1)) (xgn V (h + 1)))
theorem astD_L {m V : xM} (W : xWE V) (h1 : m (1 + 15) 1 = V 0 1) (C : xCs m (1 + 255) V) (T : ∀ j : Nat, (j : Int) < V 0 1 → xSt m (wr (1 + 37) (V 0 1 - j)) (xPw V (xmm V) j)) : ∀ (n g i : Nat), n < g → (i : Int) + n = V 0 1 → fD_astray_L22 g 1 (i : Int) m = some (xff (xal V) n i, m)
  | _, 0, _, hg, _ => absurd hg (Nat.not_lt_zero _)
  | 0, g + 1, i, _, hi => by
    unfold fD_astray_L22 xff
    rw [h1, if_neg (by omega)]
  | n + 1, g + 1, i, hg, hi => by
    have hH := W.1.2.1
    have c := (C i (by omega)).2
    have r := gn_can W (i + 1) (by omega)
    have r9 := xcan_9 W.1 r
    have t := T ((V 0 1).toNat - (i + 1)) (by omega)
    rw [show V 0 1 - (((V 0 1).toNat - (i + 1) : Nat) : Int) = (i : Int) + 1 by omega] at t
    obtain ⟨v, ev, hv⟩ := has_s t (s := xgn V (i + 1)) r9.1 r9.2
    have ev : fSets_has (1 + 37 + 8 + 3 + 4 * ((i : Int) + 1)) (xgn V (i + 1)) m = some v := ev
    rw [fD_astray_L22, xff]
    rw [h1, if_pos (by omega), xw32_id (x := (i : Int) + 1) (by omega) (by omega), xA_p (by omega), xA_p (by omega), show m (1 + 255 + 2) (i : Int) = xgn V (i + 1) from c, ev, xB_s]
    rcases hv with ⟨rfl, p⟩ | ⟨rfl, p⟩
    · rw [if_neg (by decide), if_neg (by unfold xal; rw [xdc_f.mpr (fun y => y p)]; decide)]
      exact astD_L W h1 C T n g (i + 1) (by omega) (by omega)
    · rw [if_pos rfl, if_pos (by unfold xal; exact xdc_t.mpr p)]
theorem astQ_L {m V : xM} (W : xWE V) (h1 : m (310 + 7) 1 = V 0 1) (C : ∀ h : Nat, (h : Int) < V 0 1 → m (310 + 16) h = xgn V (h + 1)) (T : ∀ j : Nat, (j : Int) ≤ V 0 1 → xTb m 310 V j) : ∀ (n g i : Nat), n < g → (i : Int) + n = V 0 1 → fQ_astray_L25 g 310 (i : Int) m = some (xff (xal V) n i, m)
  | _, 0, _, hg, _ => absurd hg (Nat.not_lt_zero _)
  | 0, g + 1, i, _, hi => by
    unfold fQ_astray_L25 xff
    rw [h1, if_neg (by omega)]
  | n + 1, g + 1, i, hg, hi => by
    have hH := W.1.2.1
    have hN := W.1.1
    have pw := pw_9 hN.1 hN.2
    have c := C i (by omega)
    have r := gn_can W (i + 1) (by omega)
    have rg := xcan_rg W.1 _ _ r
    have t := T ((V 0 1).toNat - (i + 1)) (by omega) _ rg.1 rg.2
    rw [show V 0 1 - (((V 0 1).toNat - (i + 1) : Nat) : Int) = (i : Int) + 1 by omega] at t
    have t0 := T (V 0 1).toNat (by omega) 0 (by decide) (by omega)
    rw [show 512 * (V 0 1 - (((V 0 1).toNat : Nat) : Int)) + 0 = 0 by omega, fin_0 W.1] at t0
    have fi := fin_iff W.1 (h := i + 1) (k := (V 0 1).toNat - (i + 1)) (by omega) r
    rw [fQ_astray_L25, xff]
    rw [h1, if_pos (by omega), xA_p (by omega), c, xw32_id (x := (i : Int) + 1) (by omega) (by omega), xw32_id (x := 512 * ((i : Int) + 1)) (by omega) (by omega), xw32_id (x := 512 * ((i : Int) + 1) + xgn V (i + 1)) (by omega) (by omega), xA_p (by omega), t, t0]
    by_cases e : xfn V ((V 0 1).toNat - (i + 1)) (xgn V (i + 1)) < xmm V
    · rw [if_pos e, if_pos (by unfold xal; exact xdc_t.mpr (fun y => by have := fi.2.mp y; omega))]
    · rw [if_neg e, if_neg (by unfold xal; rw [xdc_f.mpr (fun y => y (fi.2.mpr (by have := fi.1; omega)))]; decide)]
      exact astQ_L W h1 C T n g (i + 1) (by omega) (by omega)
theorem kp_aim {m k : xM} (f : xFw (1 + 37) m k) : xKp m k := xKp_c (xKp_rfl m) (fun a ha => f a (by unfold xPer at ha; omega))
theorem call_30 {M : xM} (S : Sim M) : xC2 (fD_astray 1 M) (fQ_astray 310) M := by
  obtain ⟨V, hv, W, Q, L⟩ := opn2 S
  have hH := W.1.2.1
  by_cases h1 : 0 < V 0 0
  · have p2 := W2p W h1
    have hh : 1 ≤ V 0 1 := W.2.2.2.2.1 p2
    refine xC2_of (A := fun r => r = xff (xal V) (V 0 1).toNat 0) ?_ (fun m k => ?_) (fun r s a b => a.trans b.symm)
    · unfold fD_astray
      rw [stands_s, xPv_0 hv 0 (by decide) (by decide)]
      simp only [if10]
      rw [if_neg (not_not_intro h1)]
      refine xP_B (aim_s W.1 hh (L p2).1.2) ?_
      rintro m2 ⟨f2, T⟩
      have k2 := kp_aim f2
      have C2 : xCs m2 (1 + 255) V := by
        have := (L p2).2
        unfold xCs at this ⊢
        rw [k2.1 (1 + 255 + 1) (by unfold xPer; omega), k2.1 (1 + 255 + 2) (by unfold xPer; omega)]
        exact this
      have e := astD_L W (by rw [k2.1 (1 + 15) (by unfold xPer; omega)]; exact xPv_0 hv 1 (by decide) (by decide)) C2 T (V 0 1).toNat 20001 0 (by omega) (by omega)
      exact xP_of e ⟨rfl, k2⟩
    · obtain ⟨k2, Q2⟩ := Q m k
      unfold fQ_astray
      rw [qPrison_s Q2 W]
      simp only [if10]
      rw [if_neg (not_not_intro h1)]
      refine xP_B (asTold_s Q2 W p2) ?_
      rintro m2 ⟨k3, E, D, P, C⟩
      refine xP_B (fin_s E D W.1) ?_
      rintro m3 ⟨f3, T⟩
      have k4 : xKp m2 m3 := xKp_F f3 (fun a a0 a1 => by unfold xPer; omega)
      have e := astQ_L W (by rw [f3 (310 + 7) (by omega)]; exact E.1.2.1) (fun h hh => by rw [f3 (310 + 16) (by omega)]; exact (C h hh).2) T (V 0 1).toNat 20001 0 (by omega) (by omega)
      exact xP_of e ⟨rfl, xKp_tr k2 (xKp_tr k3 k4)⟩
  · have d : fD_astray 1 M = some (-2, M) := by
      unfold fD_astray
      rw [stands_s, xPv_0 hv 0 (by decide) (by decide)]
      simp only [if10]
      rw [if_pos h1]
    rw [d]
    refine xC2_n (k := fun m => xwr m 310 0 0) (fun m k => ?_)
    obtain ⟨k2, Q2⟩ := Q m k
    refine ⟨?_, k2⟩
    unfold fQ_astray
    rw [qPrison_s Q2 W]
    simp only [if10]
    rw [if_pos h1]
end
