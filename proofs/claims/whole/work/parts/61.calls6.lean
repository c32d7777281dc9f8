/-! calls: drawn, chance; and small ones -/
noncomputable section
def xUc (V : xM) (x od : Int) : xM := @Classical.epsilon xM ⟨V⟩ (fun U => xDw V x od U)
theorem xUc_sp {V m : xM} {p : Int} (x od : Int) (w : xWF V) (hv : xPv m p V) : xDw V x od (xUc V x od) := by
  obtain ⟨r, -, -, -, U, -, hU⟩ := drawD_s (x := x) (od := od) w hv
  exact @Classical.epsilon_spec xM (fun U => xDw V x od U) ⟨U, hU⟩
theorem xDw_v {V U U' : xM} {x od : Int} (h : xDw V x od U) (k : xDw V x od U') (a i : Int) (hv : xvd a i) : U a i = U' a i := by
  by_cases e : a = 5
  · subst e
    have hi : 0 ≤ i ∧ i < 9 := by unfold xvd at hv; omega
    have a1 := h.2 i hi.1 hi.2
    have a2 := k.2 i hi.1 hi.2
    exact xbt_ext a1.1 a2.1 (fun c c0 c1 => by rw [a1.2 c c0 c1, a2.2 c c0 c1])
  · rw [h.1 a i e, k.1 a i e]
theorem drawD' {V m : xM} {p : Int} (x od : Int) (w : xWF V) (hv : xPv m p V) : xP (fPrison_drawSleeps p x od m) (fun r => r.1 = xsm (xdn V x od) (V 0 1).toNat 0 0 ∧ xF p (p + 10) m r.2 ∧ xPv r.2 p (xUc V x od)) := by
  refine xP_mono (drawD_s (x := x) (od := od) w hv) ?_
  rintro r ⟨a, b, U, c, d⟩
  refine ⟨a, b, fun i j hij => ?_⟩
  rw [c i j hij]
  exact xDw_v d (xUc_sp x od w hv) i j hij
theorem outD {m U : xM} (w : xWE U) (hv : xPv m (1 + 26) U) : xP (fD_outInDraft 1 m) (fun x => x.1 = xgn U (U 0 1).toNat ∧ xKp m x.2) := by
  have hH := w.1.2.1
  unfold fD_outInDraft
  refine xP_B (keys_s (k := 1 + 146 + 1) hv w.1 (by decide)) ?_
  rintro m1 ⟨f1, k1⟩
  have v1 : xPv m1 (1 + 26) U := xPv_go hv (fun a a0 a1 => f1 a (by omega))
  refine xP_B (follow_s (k := 1 + 258) v1 k1 w (by omega) (by omega)) ?_
  rintro m2 ⟨f2, c2⟩
  have v2 : xPv m2 (1 + 26) U := xPv_go v1 (fun a a0 a1 => f2 a (by omega))
  have e : U 0 1 = (((U 0 1).toNat : Nat) : Int) := by omega
  rw [xPv_0 v2 1 (by decide) (by decide), e, ahead_D c2 hH.2 _ (by omega), xB_s, ← e]
  exact xP_some ⟨rfl, xKp_tr (xKp_F f1 (fun a a0 a1 => by unfold xPer; omega)) (xKp_F f2 (fun a a0 a1 => by unfold xPer; omega))⟩
theorem isDrawing_s (x od : Int) (M : xM) : fD_isDrawing x od M = if (0 ≤ x ∧ x ≤ 2000000000) ∧ (0 ≤ od ∧ od ≤ 100) then 1 else 0 := by
  unfold fD_isDrawing; (repeat' split) <;> omega
theorem isDraw_s {m V : xM} (Q : xQ0 m 310 0 V) (w : xWE V) (x od : Int) : fQ_isDraw 310 x od m = if 0 < V 0 0 ∧ (0 ≤ x ∧ x ≤ 2000000000) ∧ (0 ≤ od ∧ od ≤ 100) then 1 else 0 := by
  unfold fQ_isDraw
  rw [qPrison_s Q w, fQ_in_s, fQ_in_s]
  simp only [if10]
  (repeat' split) <;> first | rfl | omega
theorem call_58 {M : xM} (S : Sim M) (x od what : Int) : xC2 (fD_drawn 1 x od what M) (fQ_drawn 310 x od what) M := by
  obtain ⟨V, hv, W, Q, L⟩ := opn2 S
  have hN := W.1.1
  have hH := W.1.2.1
  by_cases h1 : (0 < V 0 0 ∧ (0 ≤ x ∧ x ≤ 2000000000) ∧ (0 ≤ od ∧ od ≤ 100)) ∧ (0 ≤ what ∧ what ≤ 2)
  · obtain ⟨hd, hw⟩ := h1
    have p2 := W2p W hd.1
    have hU := xUc_sp x od W.1 hv
    have wU := WE_Dw W hU
    have u1 : xUc V x od 0 1 = V 0 1 := hU.1 0 1 (by decide)
    refine xC2_of (A := fun r => r = if what = 0 then xgn (xUc V x od) (V 0 1).toNat else if what = 1 then xmm (xUc V x od) else xsm (xdn V x od) (V 0 1).toNat 0 0) ?_ (fun m k => ?_) (fun r s a b => a.trans b.symm)
    · unfold fD_drawn
      rw [stands_s, isDrawing_s, xPv_0 hv 0 (by decide) (by decide)]
      simp only [if10]
      rw [if_neg (not_not_intro hd.1), if_neg (not_not_intro hd.2), if_neg (show ¬ what < 0 by omega), if_neg (show ¬ 2 < what by omega)]
      refine xP_B (copyD W (L p2).1) ?_
      rintro m2 ⟨f, v⟩
      refine xP_B (drawD' x od W.1 v) ?_
      rintro ⟨cnt, m3⟩ ⟨ec, f3, v3⟩
      have k3 : xKp M m3 := xKp_tr (kp_draft f) (kp_draft (xF_w f3 (by decide) (by decide)))
      have ec : cnt = xsm (xdn V x od) (V 0 1).toNat 0 0 := ec
      show xP (if what = ((0 : Nat) : Int) then _ else if what = ((1 : Nat) : Int) then _ else _) _
      by_cases e0 : what = 0
      · rw [if_pos (show what = ((0 : Nat) : Int) from e0)]
        refine xP_B (outD wU v3) ?_
        rintro ⟨r, m4⟩ ⟨er, k4⟩
        exact xP_some ⟨by rw [if_pos e0, ← u1]; exact er, xKp_tr k3 k4⟩
      · rw [if_neg (show ¬ what = ((0 : Nat) : Int) from e0)]
        by_cases e1 : what = 1
        · rw [if_pos (show what = ((1 : Nat) : Int) from e1)]
          refine xP_B (draftD wU.1 v3) ?_
          rintro ⟨r, m4⟩ ⟨er, f4⟩
          exact xP_some ⟨by rw [if_neg e0, if_pos e1]; exact er, xKp_tr k3 (kp_trial f4)⟩
        · rw [if_neg (show ¬ what = ((1 : Nat) : Int) from e1)]
          exact xP_some ⟨by rw [if_neg e0, if_neg e1]; exact ec, k3⟩
    · obtain ⟨k2, Q2⟩ := Q m k
      unfold fQ_drawn
      rw [isDraw_s Q2 W, fQ_in_s]
      simp only [if10]
      rw [if_neg (not_not_intro hd), if_neg (not_not_intro hw)]
      refine xP_B (drawQ_s W p2 hU Q2) ?_
      rintro m3 ⟨k3, E3, D3, z3, c3, g3⟩
      have kk := xKp_tr k2 k3
      by_cases e0 : what = 0
      · have hh : 1 ≤ V 0 1 := W.2.2.2.2.1 p2
        have g := (g3 ((V 0 1).toNat - 1) (by rw [u1]; omega)).2
        have e7 : m3 (310 + 7) 1 = V 0 1 := by rw [E3.1.2.1]; exact u1
        rw [if_pos e0, e7, xw32_id (by omega) (by omega), xA_p (by omega), show V 0 1 - 1 = (((V 0 1).toNat - 1 : Nat) : Int) by omega, g]
        exact xP_some ⟨by rw [if_pos e0, show (V 0 1).toNat - 1 + 1 = (V 0 1).toNat by omega], kk⟩
      · rw [if_neg e0]
        by_cases e1 : what = 1
        · rw [if_pos e1]
          refine xP_B (ifQ E3 wU.1 z3) ?_
          rintro ⟨r, m4⟩ ⟨er, -, f4⟩
          exact xP_some ⟨by rw [if_neg e0, if_pos e1]; exact er, xKp_tr kk (xFq_kp f4)⟩
        · rw [if_neg e1]
          exact xP_some ⟨by rw [if_neg e0, if_neg e1]; exact c3, kk⟩
  · have d : fD_drawn 1 x od what M = some (-2, M) := by
      unfold fD_drawn
      rw [stands_s, isDrawing_s, xPv_0 hv 0 (by decide) (by decide)]
      simp only [if10]
      by_cases a : 0 < V 0 0
      · rw [if_neg (not_not_intro a)]
        by_cases b : (0 ≤ x ∧ x ≤ 2000000000) ∧ (0 ≤ od ∧ od ≤ 100)
        · rw [if_neg (not_not_intro b)]
          by_cases c : what < 0
          · rw [if_pos c]
          · rw [if_neg c, if_pos (Classical.byContradiction (fun y => h1 ⟨⟨a, b⟩, by omega⟩))]
        · rw [if_pos b]
      · rw [if_pos a]
    rw [d]
    refine xC2_n (k := fun m => xwr m 310 0 0) (fun m k => ?_)
    obtain ⟨k2, Q2⟩ := Q m k
    refine ⟨?_, k2⟩
    unfold fQ_drawn
    rw [isDraw_s Q2 W, fQ_in_s]
    simp only [if10]
    by_cases a : 0 < V 0 0 ∧ (0 ≤ x ∧ x ≤ 2000000000) ∧ (0 ≤ od ∧ od ≤ 100)
    · rw [if_neg (not_not_intro a), if_pos (fun b => h1 ⟨a, b⟩)]
    · rw [if_pos a]
def xch (V : xM) (x od c : Int) (i : Nat) : Int := if xbt (xgn (xUc V (x + (i : Int)) od) (V 0 1).toNat) c = true then 1 else 0
theorem chanceD_L {M V : xM} {x n od c : Int} (w : xWE V) (x0 : 0 ≤ x) (x1 : x ≤ 2000000000) (n1 : n ≤ 20) (c0 : 0 ≤ c) (c1 : c < 9) (hd0 : xDs M V) : ∀ (k g i : Nat) (a : Int) (m : xM), k < g → (i : Int) + k = n → xKp M m → 0 ≤ a → a ≤ i → xP (fD_chance_L40 g 1 x n od c a (i : Int) m) (fun r => r.1 = xsm (xch V x od c) k i a ∧ xKp M r.2)
  | _, 0, _, _, _, hg, _, _, _, _ => absurd hg (Nat.not_lt_zero _)
  | 0, g + 1, i, a, m, _, hi, hk, _, _ => by
    unfold fD_chance_L40 xsm
    rw [if_neg (by omega)]
    exact xP_some ⟨rfl, hk⟩
  | k + 1, g + 1, i, a, m, hg, hi, hk, a0, a1 => by
    have hd := xDs_kp w hd0 hk
    have hU := xUc_sp (x + (i : Int)) od w.1 hd0.1
    have wU := WE_Dw w hU
    have u1 : xUc V (x + (i : Int)) od 0 1 = V 0 1 := hU.1 0 1 (by decide)
    rw [fD_chance_L40, if_pos (show (i : Int) < n by omega), xw32_id (x := x + (i : Int)) (by omega) (by omega), xw32_id (x := (i : Int) + 1) (by omega) (by omega)]
    refine xP_B (copyD w hd) ?_
    rintro m2 ⟨f, v⟩
    refine xP_B (drawD' (x + (i : Int)) od w.1 v) ?_
    rintro ⟨cnt, m3⟩ ⟨-, f3, v3⟩
    have k3 : xKp m m3 := xKp_tr (kp_draft f) (kp_draft (xF_w f3 (by decide) (by decide)))
    refine xP_B (outD wU v3) ?_
    rintro ⟨r, m4⟩ ⟨er, k4⟩
    have er : r = xgn (xUc V (x + (i : Int)) od) (V 0 1).toNat := by rw [← u1]; exact er
    have k4 : xKp m3 m4 := k4
    show xP (fD_chance_L40 g 1 x n od c (xw32 (a + fD_bit r c m4)) ((i : Int) + 1) m4) _
    have b : 0 ≤ xch V x od c i ∧ xch V x od c i ≤ 1 := by unfold xch; split <;> omega
    have eb : fD_bit r c m4 = xch V x od c i := by rw [fD_bit_s _ m4 c0 (by omega), er]; rfl
    rw [eb, xw32_id (by omega) (by omega), xsm]
    exact chanceD_L w x0 x1 n1 c0 c1 hd0 k g (i + 1) _ m4 (by omega) (by omega) (xKp_tr hk (xKp_tr k3 k4)) (by omega) (by omega)
theorem chanceQ_L {M V : xM} {x n od c : Int} (w : xWE V) (hp : 2 ≤ V 0 0) (hD : ∀ y : Int, xDw V y od (xUc V y od)) (x0 : 0 ≤ x) (x1 : x ≤ 2000000000) (n1 : n ≤ 20) (c0 : 0 ≤ c) (c1 : c < 9) : ∀ (k g i : Nat) (a : Int) (m : xM), k < g → (i : Int) + k = n → xQ0 m 310 0 V → xKp M m → 0 ≤ a → a ≤ i → xP (fQ_chance_L45 g 310 x n od c a (i : Int) m) (fun r => r.1 = xsm (xch V x od c) k i a ∧ xKp M r.2)
  | _, 0, _, _, _, hg, _, _, _, _, _ => absurd hg (Nat.not_lt_zero _)
  | 0, g + 1, i, a, m, _, hi, _, hk, _, _ => by
    unfold fQ_chance_L45 xsm
    rw [if_neg (by omega)]
    exact xP_some ⟨rfl, hk⟩
  | k + 1, g + 1, i, a, m, hg, hi, hQ, hk, a0, a1 => by
    have hH := w.1.2.1
    have hh : 1 ≤ V 0 1 := w.2.2.2.2.1 hp
    have hU := hD (x + (i : Int))
    have u1 : xUc V (x + (i : Int)) od 0 1 = V 0 1 := hU.1 0 1 (by decide)
    rw [fQ_chance_L45, if_pos (show (i : Int) < n by omega), xw64_id (x := x + (i : Int)) (by omega) (by omega), xw32_id (x := (i : Int) + 1) (by omega) (by omega)]
    refine xP_B (drawQ_s w hp hU hQ) ?_
    rintro m3 ⟨k3, E3, D3, z3, c3, g3⟩
    have g := (g3 ((V 0 1).toNat - 1) (by rw [u1]; omega)).2
    have e7 : m3 (310 + 7) 1 = V 0 1 := by rw [E3.1.2.1]; exact u1
    rw [e7, xw32_id (x := V 0 1 - 1) (by omega) (by omega), xA_p (by omega), show V 0 1 - 1 = (((V 0 1).toNat - 1 : Nat) : Int) by omega, g, show (V 0 1).toNat - 1 + 1 = (V 0 1).toNat by omega, fQ_isBit_s _ m3 c0 (by omega), Int.add_zero, xw32_id (x := a) (by omega) (by omega), xw32_id (x := a + 1) (by omega) (by omega), xsm]
    by_cases e : xbt (xgn (xUc V (x + (i : Int)) od) (V 0 1).toNat) c = true
    · rw [if_neg (by rw [if_pos e]; decide), show xch V x od c i = 1 from if_pos e]
      exact chanceQ_L w hp hD x0 x1 n1 c0 c1 k _ (i + 1) _ m3 (by omega) (by omega) (xQ0_kp hQ k3) (xKp_tr hk k3) (by omega) (by omega)
    · rw [if_pos (by rw [if_neg e]), show xch V x od c i = 0 from if_neg e, Int.add_zero]
      exact chanceQ_L w hp hD x0 x1 n1 c0 c1 k _ (i + 1) _ m3 (by omega) (by omega) (xQ0_kp hQ k3) (xKp_tr hk k3) (by omega) (by omega)
theorem call_59 {M : xM} (S : Sim M) (x n od c : Int) : xC2 (fD_chance 1 x n od c M) (fQ_chance 310 x n od c) M := by
  obtain ⟨V, hv, W, Q, L⟩ := opn2 S
  have hN := W.1.1
  by_cases h1 : (0 ≤ c ∧ c < V 0 0) ∧ ((0 ≤ x ∧ x ≤ 2000000000) ∧ (0 ≤ od ∧ od ≤ 100)) ∧ (1 ≤ n ∧ n ≤ 20)
  · obtain ⟨hc, hd, hn⟩ := h1
    have p2 := W2 W hc.1 hc.2
    have en : (((0 : Nat) : Int)) + ((n.toNat : Nat) : Int) = n := by omega
    refine xC2_of (A := fun r => r = xsm (xch V x od c) n.toNat 0 0) ?_ (fun m k => ?_) (fun r s a b => a.trans b.symm)
    · unfold fD_chance
      rw [hasCell_s, isDrawing_s, xPv_0 hv 0 (by decide) (by decide)]
      simp only [if10]
      rw [if_neg (not_not_intro hc), if_neg (not_not_intro hd), if_neg (show ¬ n < 1 by omega), if_neg (show ¬ 20 < n by omega)]
      exact chanceD_L (M := M) W hd.1.1 hd.1.2 hn.2 hc.1 (by omega) (L p2).1 n.toNat 20001 0 0 M (by omega) en (xKp_rfl M) (by decide) (by decide)
    · obtain ⟨k2, Q2⟩ := Q m k
      unfold fQ_chance
      rw [isDraw_s Q2 W, fQ_in_s, qCell_s Q2 W]
      simp only [if10]
      rw [if_neg (not_not_intro ⟨by omega, hd⟩), if_neg (not_not_intro hn), if_neg (not_not_intro hc)]
      exact chanceQ_L (M := m) W p2 (fun y => xUc_sp y od W.1 hv) hd.1.1 hd.1.2 hn.2 hc.1 (by omega) n.toNat 20001 0 0 _ (by omega) en Q2 k2 (by decide) (by decide)
  · have d : fD_chance 1 x n od c M = some (-2, M) := by
      unfold fD_chance
      rw [hasCell_s, isDrawing_s, xPv_0 hv 0 (by decide) (by decide)]
      simp only [if10]
      by_cases a : 0 ≤ c ∧ c < V 0 0
      · rw [if_neg (not_not_intro a)]
        by_cases b : (0 ≤ x ∧ x ≤ 2000000000) ∧ (0 ≤ od ∧ od ≤ 100)
        · rw [if_neg (not_not_intro b)]
          by_cases e : n < 1
          · rw [if_pos e]
          · rw [if_neg e, if_pos (Classical.byContradiction (fun y => h1 ⟨a, b, by omega⟩))]
        · rw [if_pos b]
      · rw [if_pos a]
    rw [d]
    refine xC2_n (k := fun m => xwr m 310 0 0) (fun m k => ?_)
    obtain ⟨k2, Q2⟩ := Q m k
    refine ⟨?_, k2⟩
    unfold fQ_chance
    rw [isDraw_s Q2 W, fQ_in_s, qCell_s Q2 W]
    simp only [if10]
    by_cases a : 0 < V 0 0 ∧ (0 ≤ x ∧ x ≤ 2000000000) ∧ (0 ≤ od ∧ od ≤ 100)
    · rw [if_neg (not_not_intro a)]
      by_cases b : 1 ≤ n ∧ n ≤ 20
      · rw [if_neg (not_not_intro b), if_pos (fun e => h1 ⟨e, a.2, b⟩)]
      · rw [if_pos b]
    · rw [if_pos a]
/-! fault, cell, count -/
theorem call_3 {M : xM} (S : Sim M) (what : Int) : xC1 (some (fD_fault 1 what M)) (some (fQ_fault 310 what M)) M := by
  obtain ⟨V, hv, W, Q, K, Q0, L⟩ := opn S
  obtain ⟨a, b, -⟩ := S.2.1
  have n14 : (xwr M 310 0 0) 310 14 = M 2 7 := by rw [xwr_n _ (by decide)]; exact a.symm
  have n15 : (xwr M 310 0 0) 310 15 = M 2 8 := by rw [xwr_n _ (by decide)]; exact b.symm
  unfold fD_fault fQ_fault
  rw [n14, n15]
  refine xC1_eq rfl ?_ K
  show some (_, _) = some (_, _)
  congr 2
end
