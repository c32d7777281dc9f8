/-! sure -/
noncomputable section
theorem call_48 {M : xM} (S : Sim M) (s w : Int) : xC2 (fD_sure 1 s w M) (fQ_sure 310 s w) M := by
  have K0 : xKp M (xwr M 310 0 0) := xKp_w (xKp_rfl M) (by decide) (by decide) (by decide)
  by_cases hw : 0 ≤ w ∧ w ≤ 1
  · obtain ⟨r, d, h⟩ := weigh_both S s
    unfold fD_sure
    rw [if_neg (show ¬ w < 0 by omega), if_neg (show ¬ 1 < w by omega), d, xB_s]
    rcases h with ⟨h, q⟩ | ⟨h, hs, V, ok, K, m1, m2, hN, ew, k1, w1, n1, q, er, k2, w2, n2⟩
    · rw [if_neg h]
      refine ⟨r, M, xwr M 310 0 0, rfl, xKp_rfl M, ?_, K0⟩
      show fQ_sure 310 s w M = _
      unfold fQ_sure fQ_sure_L26
      rw [fQ_in_s]
      simp only [if10]
      rw [if_neg (not_not_intro hw), q, xB_s, if_neg h]
    · rw [if_pos h, xA_p hs, ew, xB_s]
      have a0 : m1 (1 + 264) 0 = (xrs ok K).1 := w1.1
      have a3 : m1 (1 + 264) 3 = (xrs ok K).2.2.2 := w1.2.1
      have qq : ∀ v : Int, (if (xrs ok K).1 = 0 then -1 else if w = 0 then (xrs ok K).2.2.1 else xand (xw32 (xshl 1 (V 0 0) - 1)) (xxor (xrs ok K).2.2.2 (-1))) = v → fQ_sure 310 s w m1 = some (v, m2) := fun v hv => by
        unfold fQ_sure fQ_sure_L26
        rw [fQ_in_s]
        simp only [if10]
        rw [if_neg (not_not_intro hw), q, xB_s, if_pos rfl, er, xB_s, w2.1, w2.2.2.1, w2.2.2.2, n2, ← hv]
        (repeat' split) <;> rfl
      rcases w1.2.2.2 with ⟨z, -⟩ | ⟨z, -, -, y⟩
      · rw [a0, if_pos z]
        exact ⟨-1, m1, m2, rfl, k1, qq _ (if_pos z), k2⟩
      · have a2 : m1 (1 + 264) 2 = (xrs ok K).2.2.1 := y
        rw [a0, if_neg (by omega), a2, a3, n1]
        exact ⟨_, m1, m2, rfl, k1, qq _ (if_neg (by omega)), k2⟩
  · have d : fD_sure 1 s w M = some (-2, M) := by
      unfold fD_sure fD_sure_L20
      by_cases a : w < 0
      · rw [if_pos a, if_neg (by decide)]
      · rw [if_neg a, if_pos (by omega), if_neg (by decide)]
    rw [d]
    refine ⟨-2, M, xwr M 310 0 0, rfl, xKp_rfl M, ?_, K0⟩
    show fQ_sure 310 s w M = _
    unfold fQ_sure fQ_sure_L26
    rw [fQ_in_s]
    simp only [if10]
    rw [if_pos hw, if_neg (by decide)]
end
