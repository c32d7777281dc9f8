/-! refused, fewest -/
noncomputable section
theorem weigh_both {M : xM} (S : Sim M) (s : Int) : ∃ r : Int, fD_barToTale 1 s 1 M = some r ∧ ((r ≠ 0 ∧ fQ_whyNot 310 s 0 (xwr M 310 0 0) = some r) ∨ (r = 0 ∧ (0 ≤ s ∧ s < 4) ∧ ∃ (V : xM) (ok : Nat → Bool) (K : Nat) (m1 m2 : xM), (0 ≤ V 0 0 ∧ V 0 0 ≤ 9) ∧ fInquiry_weigh (1 + 264) ((1 + 37) + 1) ((1 + 267) + 34 + 2 * s) M = some m1 ∧ xKp M m1 ∧ xWs V ok m1 K ∧ m1 (1 + 15) 0 = V 0 0 ∧ fQ_whyNot 310 s 0 (xwr m1 310 0 0) = some 0 ∧ fQ_refusals 310 s (xwr m1 310 0 0) = some m2 ∧ xKp m1 m2 ∧ xQs ok m2 K ∧ m2 (310 + 7) 0 = V 0 0)) := by
  obtain ⟨V, hv, W, Q, K, Q0, L⟩ := opn S
  have hN := W.1.1
  have pw := pw_9 hN.1 hN.2
  obtain ⟨r, d, q, ok⟩ := bar_s (m := xwr M 310 0 0) S hv W Q0 (xwr_a _ (by decide)) (xwr_a _ (by decide)) (xwr_a _ (by decide)) s 1
  have q : fQ_whyNot 310 s 0 (xwr M 310 0 0) = some r := q
  refine ⟨r, d, ?_⟩
  by_cases h : r = 0
  · obtain ⟨⟨s0, s1⟩, p2, n, e, n20, hL, hT, tl⟩ := ok h
    have hk := (L p2).1.1
    have ms := xmsk (n := V 0 0) hN.1 (by omega)
    have w : xP (fInquiry_weigh (1 + 264) ((1 + 37) + 1) ((1 + 267) + 34 + 2 * s) M) (fun m' => (∀ a : Int, a ≠ 265 → m' a = M a) ∧ xWs V (fun R => decide (xun V (R : Int) (xRt M s) n 0 0 = -1)) m' ((2 : Int) ^ (V 0 0).toNat).toNat) := by
      have k0 : M (1 + 37 + 1) 0 = V 0 0 := hk.1
      unfold fInquiry_weigh
      rw [k0, ms]
      refine weighD_L W.1 hk s0 s1 e n20 hL hT tl ((2 : Int) ^ (V 0 0).toNat).toNat 20001 0 _ (by omega) (by omega) (fun a ha => ?_) ?_
      · rw [xwr_a _ (show a ≠ 1 + 264 from ha), xwr_a _ (show a ≠ 1 + 264 from ha), xwr_a _ (show a ≠ 1 + 264 from ha), xwr_a _ (show a ≠ 1 + 264 from ha)]
      · refine ⟨?_, ?_, ⟨Int.le_refl _, Int.le_refl _⟩, Or.inl ⟨rfl, rfl, rfl, ?_, ?_⟩⟩
        · show (xwr (xwr (xwr (xwr M 265 0 0) 265 1 _) 265 2 _) 265 3 0) 265 0 = 0
          rw [xwr_n _ (by decide), xwr_n _ (by decide), xwr_n _ (by decide), xwr_s]
        · show (xwr (xwr (xwr (xwr M 265 0 0) 265 1 _) 265 2 _) 265 3 0) 265 3 = 0
          rw [xwr_s]
        · show (xwr (xwr (xwr (xwr M 265 0 0) 265 1 _) 265 2 _) 265 3 0) 265 1 = _
          rw [xwr_n _ (by decide), xwr_n _ (by decide), xwr_s]
        · show (xwr (xwr (xwr (xwr M 265 0 0) 265 1 _) 265 2 _) 265 3 0) 265 2 = _
          rw [xwr_n _ (by decide), xwr_s]
    obtain ⟨m1, ew, f1, w1⟩ := w
    have k1 : xKp M m1 := xKp_c (xKp_rfl M) (fun a ha => f1 a (by unfold xPer at ha; omega))
    have K1 : xKp m1 (xwr m1 310 0 0) := xKp_w (xKp_rfl m1) (by decide) (by decide) (by decide)
    have Q1 : xQ0 (xwr m1 310 0 0) 310 0 V := xQ0_kp Q (xKp_tr k1 K1)
    obtain ⟨r', d', q', -⟩ := bar_s (m := xwr m1 310 0 0) S hv W Q1 (by rw [xwr_a _ (by decide), f1 _ (by decide)]; rfl) (by rw [xwr_a _ (by decide), f1 _ (by decide)]; rfl) (by rw [xwr_a _ (by decide), f1 _ (by decide)]; rfl) s 1
    have rr : r' = r := by rw [d] at d'; exact (Option.some.inj d').symm
    have q' : fQ_whyNot 310 s 0 (xwr m1 310 0 0) = some r' := q'
    rw [rr, h] at q'
    have rf : xP (fQ_refusals 310 s (xwr m1 310 0 0)) (fun m' => xKp M m' ∧ xQ0 m' 310 0 V ∧ xQs (fun R => decide (xun V (R : Int) (xRt M s) n 0 0 = -1)) m' ((2 : Int) ^ (V 0 0).toNat).toNat) := by
      unfold fQ_refusals
      have kk : xKp M (xwr (xwr (xwr (xwr (xwr m1 310 0 0) 310 42 0) 310 43 (-1)) 310 44 511) 310 45 0) := xKp_w (xKp_w (xKp_w (xKp_w (xKp_tr k1 K1) (by decide) (by decide) (by decide)) (by decide) (by decide) (by decide)) (by decide) (by decide) (by decide)) (by decide) (by decide) (by decide)
      refine refQ_L W p2 s0 s1 e n20 tl ((2 : Int) ^ (V 0 0).toNat).toNat 20001 0 _ (by omega) (by omega) kk (xQ0_kp Q kk) ⟨?_, ?_, ?_, ?_⟩
      · rw [xwr_n _ (by decide), xwr_n _ (by decide), xwr_n _ (by decide), xwr_s]; rfl
      · rw [xwr_n _ (by decide), xwr_n _ (by decide), xwr_s]; rfl
      · rw [xwr_n _ (by decide), xwr_s]; rfl
      · rw [xwr_s]; rfl
    obtain ⟨m2, er, k2, Q2, w2⟩ := rf
    refine Or.inr ⟨h, ⟨s0, s1⟩, V, _, _, m1, m2, hN, ew, k1, w1, ?_, q', er, ?_, w2, Q2.1.1.2.1⟩
    · rw [f1 _ (by decide)]; exact xPv_0 hv 0 (by decide) (by decide)
    · exact ⟨fun a ha => (k2.1 a ha).trans (k1.1 a ha).symm, k2.2.1.trans k1.2.1.symm, k2.2.2.1.trans k1.2.2.1.symm, k2.2.2.2.trans k1.2.2.2.symm⟩
  · exact Or.inl ⟨h, q⟩
theorem call_46 {M : xM} (S : Sim M) (s : Int) : xC2 (fD_refused 1 s M) (fQ_refused 310 s) M := by
  obtain ⟨r, d, h⟩ := weigh_both S s
  unfold fD_refused
  rw [d, xB_s]
  rcases h with ⟨h, q⟩ | ⟨h, hs, V, ok, K, m1, m2, hN, ew, k1, w1, -, q, er, k2, w2, -⟩
  · rw [if_neg h]
    refine ⟨r, M, xwr M 310 0 0, rfl, xKp_rfl M, ?_, xKp_w (xKp_rfl M) (by decide) (by decide) (by decide)⟩
    show fQ_refused 310 s M = _
    unfold fQ_refused
    rw [q, xB_s, if_neg h]
  · rw [if_pos h, xA_p hs, ew, xB_s]
    refine ⟨m1 (1 + 264) 0, m1, m2, rfl, k1, ?_, k2⟩
    show fQ_refused 310 s m1 = _
    unfold fQ_refused
    rw [q, xB_s, if_pos rfl, er, xB_s, w2.1, show m1 (1 + 264) 0 = _ from w1.1]
theorem call_47 {M : xM} (S : Sim M) (s : Int) : xC2 (fD_fewest 1 s M) (fQ_fewest 310 s) M := by
  obtain ⟨r, d, h⟩ := weigh_both S s
  unfold fD_fewest
  rw [d, xB_s]
  rcases h with ⟨h, q⟩ | ⟨h, hs, V, ok, K, m1, m2, hN, ew, k1, w1, -, q, er, k2, w2, -⟩
  · rw [if_neg h]
    refine ⟨r, M, xwr M 310 0 0, rfl, xKp_rfl M, ?_, xKp_w (xKp_rfl M) (by decide) (by decide) (by decide)⟩
    show fQ_fewest 310 s M = _
    unfold fQ_fewest
    rw [q, xB_s, if_neg h]
  · rw [if_pos h, xA_p hs, ew, xB_s]
    refine ⟨m2 310 43, m1, m2, ?_, k1, ?_, k2⟩
    · rw [w2.2.1, show m1 (1 + 264) 0 = _ from w1.1]
      rcases w1.2.2.2 with ⟨z, y, -⟩ | ⟨z, -, y, -⟩
      · rw [if_pos z, y]
      · rw [if_neg (by omega), show m1 (1 + 264) 1 = _ from y]
    · show fQ_fewest 310 s m1 = _
      unfold fQ_fewest
      rw [q, xB_s, if_pos rfl, er, xB_s]
end
