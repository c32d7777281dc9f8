/-! the best door -/
noncomputable section
theorem or_0 {s : Int} (s0 : 0 ≤ s) (s1 : s < 512) : xor32 s 0 = s := xbt_ext (xor_in _ _) (by unfold x32; omega) (fun c _ _ => by rw [xbt_or, xbt_0, Bool.or_false])
def xbc (V : xM) (h s : Int) (k : Nat) (c : Nat) : Bool := xdc (xop V (c : Int) h s = true ∧ xPw V (xmm V) k (xad s (c : Int)))
theorem xbc_t {V : xM} {h s : Int} {k c : Nat} : xbc V h s k c = true ↔ (xop V (c : Int) h s = true ∧ xPw V (xmm V) k (xad s (c : Int))) := xdc_t
def xbd (V : xM) (h : Nat) (s : Int) : Int := if xdc (xPw V (xmm V) ((V 0 1).toNat - (h + 1)) s) = true then -1 else xff (xbc V (h : Int) s ((V 0 1).toNat - (h + 1))) (V 0 0).toNat 0
def xbs (V : xM) : Nat → Int
  | 0 => 0
  | h + 1 => if xbd V h (xbs V h) = -1 then xbs V h else xad (xbs V h) (xbd V h (xbs V h))
theorem xff_at (p : Nat → Bool) : ∀ k i : Nat, xff p k i = -1 ∨ ∃ j : Nat, xff p k i = (j : Int) ∧ i ≤ j ∧ j < i + k ∧ p j = true
  | 0, _ => Or.inl rfl
  | k + 1, i => by
    unfold xff
    by_cases e : p i = true
    · rw [if_pos e]; exact Or.inr ⟨i, rfl, by omega, by omega, e⟩
    · rw [if_neg e]
      rcases xff_at p k (i + 1) with a | ⟨j, a, b, c, d⟩
      · exact Or.inl a
      · exact Or.inr ⟨j, a, by omega, by omega, d⟩
theorem xbd_at {V : xM} (w : xWF V) (h : Nat) (s : Int) : xbd V h s = -1 ∨ (0 ≤ xbd V h s ∧ xbd V h s < V 0 0 ∧ xop V (xbd V h s) (h : Int) s = true) := by
  have hN := w.1
  unfold xbd
  by_cases e : xdc (xPw V (xmm V) ((V 0 1).toNat - (h + 1)) s) = true
  · rw [if_pos e]; exact Or.inl rfl
  · rw [if_neg e]
    rcases xff_at (xbc V (h : Int) s ((V 0 1).toNat - (h + 1))) (V 0 0).toNat 0 with a | ⟨j, a, b, c, d⟩
    · exact Or.inl a
    · rw [a]
      have d := xdc_t.mp d
      exact Or.inr ⟨by omega, by omega, d.1⟩
theorem bs_can {V : xM} (w : xWF V) : ∀ h : Nat, xcan V h (xbs V h)
  | 0 => rfl
  | h + 1 => by
    have ih := bs_can w h
    unfold xbs
    by_cases e : xbd V h (xbs V h) = -1
    · rw [if_pos e]; exact Or.inl ih
    · rw [if_neg e]
      obtain ⟨a, b, c⟩ := (xbd_at w h (xbs V h)).resolve_left e
      exact Or.inr ⟨_, _, a, b, ih, c, rfl⟩
theorem winD_L {m V : xM} {x h s : Int} {k : Nat} (w : xWF V) (hk : xKO m (x + 1) V) (h0 : 0 ≤ h) (h1 : h < V 0 1) (s0 : 0 ≤ s) (s1 : s < 2 ^ (V 0 0).toNat) (T : xSt m (wr x (h + 1)) (xPw V (xmm V) k)) : ∀ (n g i : Nat), n < g → (i : Int) + n = V 0 0 → fOutlook_firstWinningDoor_L19 g x h s (i : Int) m = some (xff (xbc V h s k) n i)
  | _, 0, _, hg, _ => absurd hg (Nat.not_lt_zero _)
  | 0, g + 1, i, _, hi => by
    unfold fOutlook_firstWinningDoor_L19 xff
    rw [hk.1, if_neg (by omega)]
  | n + 1, g + 1, i, hg, hi => by
    have hN := w.1
    have hH := w.2.1
    have pw := pw_9 hN.1 hN.2
    have ar : 0 ≤ xad s (i : Int) ∧ xad s (i : Int) < 2 ^ (V 0 0).toNat := xad_rg s0 s1 (by omega) (by omega) (by omega)
    obtain ⟨v, ev, hv⟩ := has_s T (s := xad s (i : Int)) ar.1 (by omega)
    have ev : fSets_has (x + 8 + 3 + 4 * (h + 1)) (xor32 s (xshl 1 (i : Int))) m = some v := ev
    rw [fOutlook_firstWinningDoor_L19, xff]
    rw [hk.1, if_pos (by omega), opensFor_s hk w (by omega) (by omega) h0 h1, xB_s, xw32_id (x := (i : Int) + 1) (by omega) (by omega), xw32_id (x := h + 1) (by omega) (by omega), xA_p (by omega), ev, xB_s]
    have IH := winD_L w hk h0 h1 s0 s1 T n g (i + 1) (by omega) (by omega)
    by_cases o : xop V (i : Int) h s = true
    · rw [if_neg (by rw [if_pos o]; decide)]
      rcases hv with ⟨rfl, p⟩ | ⟨rfl, p⟩
      · rw [if_neg (by decide), if_pos (show xbc V h s k i = true from xbc_t.mpr ⟨o, p⟩)]
      · rw [if_pos rfl, if_neg (by unfold xbc; rw [xdc_f.mpr (fun y => p y.2)]; decide)]
        exact IH
    · rw [if_pos (by rw [if_neg o]), if_neg (by unfold xbc; rw [xdc_f.mpr (fun y => o y.1)]; decide)]
      exact IH
theorem winD_s {m V : xM} {x s : Int} {h : Nat} (w : xWF V) (hk : xKO m (x + 1) V) (h1 : (h : Int) < V 0 1) (s0 : 0 ≤ s) (s1 : s < 2 ^ (V 0 0).toNat) (T : ∀ j : Nat, (j : Int) < V 0 1 → xSt m (wr x (V 0 1 - j)) (xPw V (xmm V) j)) : fOutlook_firstWinningDoor x (h : Int) s m = some (xbd V h s) := by
  have hN := w.1
  have hH := w.2.1
  have pw := pw_9 hN.1 hN.2
  have t := T ((V 0 1).toNat - (h + 1)) (by omega)
  rw [show V 0 1 - (((V 0 1).toNat - (h + 1) : Nat) : Int) = (h : Int) + 1 by omega] at t
  obtain ⟨v, ev, hv⟩ := has_s t (s := s) s0 (by omega)
  have ev : fSets_has (x + 8 + 3 + 4 * ((h : Int) + 1)) s m = some v := ev
  unfold fOutlook_firstWinningDoor xbd
  rw [xw32_id (x := (h : Int) + 1) (by omega) (by omega), xA_p (by omega), ev, xB_s]
  rcases hv with ⟨rfl, p⟩ | ⟨rfl, p⟩
  · rw [if_neg (by decide), if_pos (xdc_t.mpr p)]
  · rw [if_pos rfl, if_neg (by rw [xdc_f.mpr p]; decide)]
    exact winD_L w hk (by omega) h1 s0 s1 t (V 0 0).toNat 20001 0 (by omega) (by omega)
theorem bestD_L {m V : xM} {x : Int} {t : Nat} (w : xWF V) (hk : xKO m (x + 1) V) (ht : (t : Int) < V 0 1) (T : ∀ j : Nat, (j : Int) < V 0 1 → xSt m (wr x (V 0 1 - j)) (xPw V (xmm V) j)) : ∀ (n g i : Nat) (d : Int), n < g → i + n = t + 1 → (i = t + 1 → d = xbd V t (xbs V t)) → fOutlook_firstBestDoor_L11 g x (t : Int) (xbs V i) d (i : Int) m = some (xbd V t (xbs V t), m)
  | _, 0, _, _, hg, _, _ => absurd hg (Nat.not_lt_zero _)
  | 0, g + 1, i, d, _, hi, hd => by
    unfold fOutlook_firstBestDoor_L11
    rw [if_pos (by omega), hd (by omega)]
  | n + 1, g + 1, i, d, hg, hi, hd => by
    have hN := w.1
    have hH := w.2.1
    have pw := pw_9 hN.1 hN.2
    have r := xcan_rg w _ _ (bs_can w i)
    have st : xbs V (i + 1) = if xbd V i (xbs V i) = -1 then xbs V i else xad (xbs V i) (xbd V i (xbs V i)) := rfl
    have IH := bestD_L w hk ht T n g (i + 1) (xbd V i (xbs V i)) (by omega) (by omega) (fun e => by rw [show i = t by omega])
    unfold fOutlook_firstBestDoor_L11
    rw [if_neg (by omega), hk.2.1, if_pos (by omega), winD_s w hk (by omega) r.1 r.2 T, xB_s, xw32_id (x := (i : Int) + 1) (by omega) (by omega), or_0 r.1 (by omega)]
    by_cases e : xbd V i (xbs V i) = -1
    · rw [if_pos e]
      rw [st, if_pos e] at IH
      exact IH
    · rw [if_neg e]
      rw [st, if_neg e] at IH
      exact IH
theorem bestQ_L43 {m V : xM} {s : Int} {h t : Nat} (W : xWE V) (E : xEf m 310 V) (D : xWd m 310 V (fun _ => false)) (h1 : (h : Int) < V 0 1) (hc : xcan V h s) (hn : ¬ xPw V (xmm V) ((V 0 1).toNat - (h + 1)) s) (T : ∀ j : Nat, (j : Int) ≤ V 0 1 → xTb m 310 V j) (K : Int → Int → Int → Int → Int → xM → Option (Int × xM)) : ∀ (n g i : Nat), n < g → (i : Int) + n = V 0 0 → fQ_best_L43 K g 310 (t : Int) s (-1) (h : Int) (i : Int) m = K 310 (t : Int) (if xff (xbc V (h : Int) s ((V 0 1).toNat - (h + 1))) n i = -1 then s else xad s (xff (xbc V (h : Int) s ((V 0 1).toNat - (h + 1))) n i)) (xff (xbc V (h : Int) s ((V 0 1).toNat - (h + 1))) n i) ((h : Int) + 1) m
  | _, 0, _, hg, _ => absurd hg (Nat.not_lt_zero _)
  | 0, g + 1, i, _, hi => by
    have hH := W.1.2.1
    rw [fQ_best_L43, E.1.1, if_neg (by omega), if_pos rfl, xw32_id (x := (h : Int) + 1) (by omega) (by omega)]
    unfold xff
    rw [if_pos rfl]
  | n + 1, g + 1, i, hg, hi => by
    have hN := W.1.1
    have hH := W.1.2.1
    have pw := pw_9 hN.1 hN.2
    have rg := xcan_rg W.1 _ _ hc
    have ar : 0 ≤ xad s (i : Int) ∧ xad s (i : Int) < 2 ^ (V 0 0).toNat := xad_rg rg.1 rg.2 (by omega) (by omega) (by omega)
    have tt := T ((V 0 1).toNat - (h + 1)) (by omega)
    have ts := tt s rg.1 rg.2
    have ta := tt (xad s (i : Int)) ar.1 ar.2
    rw [show V 0 1 - (((V 0 1).toNat - (h + 1) : Nat) : Int) = (h : Int) + 1 by omega] at ts ta
    have t0 := T (V 0 1).toNat (by omega) 0 (by decide) (by omega)
    rw [show 512 * (V 0 1 - (((V 0 1).toNat : Nat) : Int)) + 0 = 0 by omega, fin_0 W.1] at t0
    have fs := fin_iff W.1 (h := h + 1) (k := (V 0 1).toNat - (h + 1)) (by omega) (Or.inl hc)
    have lt : xfn V ((V 0 1).toNat - (h + 1)) s < xmm V := by
      have a := fs.1
      have b : xfn V ((V 0 1).toNat - (h + 1)) s ≠ xmm V := fun y => hn (fs.2.mpr y)
      omega
    have IH := bestQ_L43 (t := t) W E D h1 hc hn T K n g (i + 1) (by omega) (by omega)
    have sfT : xbc V (h : Int) s ((V 0 1).toNat - (h + 1)) i = true → xff (xbc V (h : Int) s ((V 0 1).toNat - (h + 1))) (n + 1) i = (i : Int) := fun y => by rw [xff, if_pos y]
    have sfF : ¬ xbc V (h : Int) s ((V 0 1).toNat - (h + 1)) i = true → xff (xbc V (h : Int) s ((V 0 1).toNat - (h + 1))) (n + 1) i = xff (xbc V (h : Int) s ((V 0 1).toNat - (h + 1))) n (i + 1) := fun y => by rw [xff, if_neg y]
    rw [fQ_best_L43, E.1.1, if_pos (by omega), xw32_id (x := (h : Int) + 1) (by omega) (by omega), xw32_id (x := 512 * ((h : Int) + 1)) (by omega) (by omega), xw32_id (x := 512 * ((h : Int) + 1) + s) (by omega) (by omega), xA_p (by omega), ts, t0, if_pos lt, if_pos rfl, opens_s E D W.1 (by omega) (by omega) (by omega) h1, xB_s, xw32_id (x := (i : Int) + 1) (by omega) (by omega), show xor32 s (xshl 1 (i : Int)) = xad s (i : Int) from rfl, xw32_id (x := 512 * ((h : Int) + 1) + xad s (i : Int)) (by omega) (by omega), xA_p (by omega), ta]
    by_cases o : xop V (i : Int) (h : Int) s = true
    · have fa := fin_iff W.1 (h := h + 1) (k := (V 0 1).toNat - (h + 1)) (s := xad s (i : Int)) (by omega) (Or.inr ⟨(i : Int), s, by omega, by omega, hc, o, rfl⟩)
      rw [if_neg (by rw [if_pos o]; decide)]
      by_cases q : xfn V ((V 0 1).toNat - (h + 1)) (xad s (i : Int)) = xmm V
      · rw [if_pos q, sfT (xbc_t.mpr ⟨o, fa.2.mpr q⟩), if_neg (show ¬ (i : Int) = -1 by omega)]
        obtain ⟨g', rfl⟩ : ∃ g' : Nat, g = g' + 1 := ⟨g - 1, by omega⟩
        rw [fQ_best_L43, E.1.1, xw32_id (x := (h : Int) + 1) (by omega) (by omega), xw32_id (x := 512 * ((h : Int) + 1)) (by omega) (by omega), xw32_id (x := 512 * ((h : Int) + 1) + s) (by omega) (by omega), ts, t0]
        by_cases z : (i : Int) + 1 < V 0 0
        · rw [if_pos z, xA_p (by omega), if_pos lt, if_neg (show ¬ (i : Int) = -1 by omega), if_neg (show ¬ (i : Int) = -1 by omega)]
          rfl
        · rw [if_neg z, if_neg (show ¬ (i : Int) = -1 by omega)]
          rfl
      · rw [if_neg q, sfF (fun y => q (fa.2.mp (xbc_t.mp y).2))]
        exact IH
    · rw [if_pos (by rw [if_neg o]), sfF (fun y => o (xbc_t.mp y).1)]
      exact IH
theorem bestQ_1 {m V : xM} {s : Int} {h t : Nat} (W : xWE V) (hp : 2 ≤ V 0 0) (E : xEf m 310 V) (D : xWd m 310 V (fun _ => false)) (h1 : (h : Int) < V 0 1) (hc : xcan V h s) (T : ∀ j : Nat, (j : Int) ≤ V 0 1 → xTb m 310 V j) (K : Int → Int → Int → Int → Int → xM → Option (Int × xM)) : fQ_best_L43 K (20000 + 1) 310 (t : Int) s (-1) (h : Int) 0 m = K 310 (t : Int) (if xbd V h s = -1 then s else xad s (xbd V h s)) (xbd V h s) ((h : Int) + 1) m := by
  have hN := W.1.1
  have hH := W.1.2.1
  have pw := pw_9 hN.1 hN.2
  have rg := xcan_rg W.1 _ _ hc
  by_cases hn : xPw V (xmm V) ((V 0 1).toNat - (h + 1)) s
  · have fs := fin_iff W.1 (h := h + 1) (k := (V 0 1).toNat - (h + 1)) (by omega) (Or.inl hc)
    have ts := T ((V 0 1).toNat - (h + 1)) (by omega) s rg.1 rg.2
    rw [show V 0 1 - (((V 0 1).toNat - (h + 1) : Nat) : Int) = (h : Int) + 1 by omega, fs.2.mp hn] at ts
    have t0 := T (V 0 1).toNat (by omega) 0 (by decide) (by omega)
    rw [show 512 * (V 0 1 - (((V 0 1).toNat : Nat) : Int)) + 0 = 0 by omega, fin_0 W.1] at t0
    have ed : xbd V h s = -1 := if_pos (xdc_t.mpr hn)
    rw [fQ_best_L43, E.1.1, if_pos (by omega), xw32_id (x := (h : Int) + 1) (by omega) (by omega), xw32_id (x := 512 * ((h : Int) + 1)) (by omega) (by omega), xw32_id (x := 512 * ((h : Int) + 1) + s) (by omega) (by omega), xA_p (by omega), ts, t0, if_neg (by omega), if_pos rfl, ed, if_pos rfl]
  · have ed : xbd V h s = xff (xbc V (h : Int) s ((V 0 1).toNat - (h + 1))) (V 0 0).toNat 0 := if_neg (by rw [xdc_f.mpr hn]; decide)
    rw [ed]
    exact bestQ_L43 W E D h1 hc hn T K (V 0 0).toNat (20000 + 1) 0 (by omega) (by omega)
theorem bestQ_L {m V : xM} {t : Nat} (W : xWE V) (hp : 2 ≤ V 0 0) (E : xEf m 310 V) (D : xWd m 310 V (fun _ => false)) (ht : (t : Int) < V 0 1) (T : ∀ j : Nat, (j : Int) ≤ V 0 1 → xTb m 310 V j) : ∀ (n g i : Nat) (d : Int), n < g → i + n = t + 1 → (i = t + 1 → d = xbd V t (xbs V t)) → fQ_best_L32 g 310 (t : Int) (xbs V i) d (i : Int) m = some (xbd V t (xbs V t), m)
  | _, 0, _, _, hg, _, _ => absurd hg (Nat.not_lt_zero _)
  | 0, g + 1, i, d, _, hi, hd => by
    unfold fQ_best_L32
    rw [if_pos (by omega), hd (by omega)]
  | n + 1, g + 1, i, d, hg, hi, hd => by
    have IH := bestQ_L W hp E D ht T n g (i + 1) (xbd V i (xbs V i)) (by omega) (by omega) (fun e => by rw [show i = t by omega])
    have e := bestQ_1 (t := t) (h := i) W hp E D (by omega) (bs_can W.1 i) T (fQ_best_L32 g)
    rw [fQ_best_L32, if_neg (by omega)]
    exact e.trans IH
theorem call_22 {M : xM} (S : Sim M) (h : Int) : xC2 (fD_best 1 h M) (fQ_best 310 h) M := by
  obtain ⟨V, hv, W, Q, L⟩ := opn2 S
  have hH := W.1.2.1
  by_cases h1 : 0 ≤ h ∧ h < V 0 1
  · have p2 := W2h W h1.1 h1.2
    have hh : 1 ≤ V 0 1 := W.2.2.2.2.1 p2
    obtain ⟨t, rfl⟩ := Int.eq_ofNat_of_zero_le h1.1
    refine xC2_of (A := fun r => r = xbd V t (xbs V t)) ?_ (fun m k => ?_) (fun r s a b => a.trans b.symm)
    · unfold fD_best fOutlook_firstBestDoor
      rw [hasHour_s, xPv_0 hv 1 (by decide) (by decide)]
      simp only [if10]
      rw [if_neg (not_not_intro h1)]
      obtain ⟨m2, e2, f2, T⟩ := aim_s W.1 hh (L p2).1.2
      have k2 := kp_aim f2
      have l2 := xLook_go W.1 (L p2).1.2 (fun a a0 a1 a2 => f2 a (by omega))
      have e := bestD_L (t := t) W.1 l2.1 h1.2 T (t + 1) 20001 0 (-1) (by omega) (by omega) (fun e => absurd e (by omega))
      have e : fOutlook_firstBestDoor_L11 20001 (1 + 37) (t : Int) 0 (-1) 0 m2 = _ := e
      rw [e2, xB_s, e]
      exact xP_some ⟨rfl, k2⟩
    · obtain ⟨k2, Q2⟩ := Q m k
      unfold fQ_best
      rw [qHour_s Q2 W]
      simp only [if10]
      rw [if_neg (not_not_intro h1)]
      refine xP_B (lays_s Q2 W p2) ?_
      rintro m2 ⟨k3, E, D, P⟩
      refine xP_B (fin_s E D W.1) ?_
      rintro m3 ⟨f3, T⟩
      have k4 : xKp m2 m3 := xKp_F f3 (fun a a0 a1 => by unfold xPer; omega)
      have E3 : xEf m3 310 V := xEf_go E (fun j _ _ => by rw [f3 310 (by omega)]) (f3 _ (by omega)) (f3 _ (by omega)) (f3 _ (by omega)) (f3 _ (by omega)) (f3 _ (by omega))
      have D3 : xWd m3 310 V (fun _ => false) := xWd_go D (f3 _ (by omega))
      have e := bestQ_L (t := t) W p2 E3 D3 h1.2 T (t + 1) 20001 0 (-1) (by omega) (by omega) (fun e => absurd e (by omega))
      exact xP_of e ⟨rfl, xKp_tr k2 (xKp_tr k3 k4)⟩
  · have d : fD_best 1 h M = some (-2, M) := by
      unfold fD_best
      rw [hasHour_s, xPv_0 hv 1 (by decide) (by decide)]
      simp only [if10]
      rw [if_pos h1]
    rw [d]
    refine xC2_n (k := fun m => xwr m 310 0 0) (fun m k => ?_)
    obtain ⟨k2, Q2⟩ := Q m k
    refine ⟨?_, k2⟩
    unfold fQ_best
    rw [qHour_s Q2 W]
    simp only [if10]
    rw [if_pos h1]
end
