/-! plan, cell, count -/
noncomputable section
theorem plan_s {M : xM} (S : Sim M) {h x : Int} (h0 : 0 ≤ h) (h1 : h < 24) (hp : 2 ≤ xVw M 16 0 0) (hx : x = -1 ∨ (0 ≤ x ∧ x < xVw M 16 0 0)) : ∃ m1 : xM, fCourse_follow (1 + 255) (1 + 15) ((1 + 37) + 1) (xwr M ((1 + 15) + 10) h x) = some m1 ∧ m1 0 = M 0 ∧ (∀ a : Int, 266 ≤ a → m1 a = M a) ∧ (xwr (xwr m1 310 0 0) (310 + 11) h x) 0 = M 0 ∧ Sim (xwr (xwr m1 310 0 0) (310 + 11) h x) := by
  have W := S.2.2.1.1
  have Q := S.2.2.1.2
  have W' := WE_10 W (h := h) hx
  have hv : xPv (xwr M (16 + 10) h x) 16 (xwr (xVw M 16) 10 h x) := xPv_w (xPv_V M 16) 10 h x
  have l0 := (S.2.2.2.2.2 hp).1
  have l1 : xLook (xwr M (16 + 10) h x) 38 (xwr (xVw M 16) 10 h x) := xLook_9 (xLook_go W.1 l0 (fun a a0 a1 _ => xwr_a _ (by omega))) (fun a i a0 a1 => xwr_r _ _ (by omega))
  obtain ⟨m1, e1, f1, c1⟩ := follow_s (k := 256) (p := 16) (kk := 38 + 1) hv l1.1 W' (by decide) (by decide)
  have g1 : ∀ a : Int, a ≠ 26 → (a < 257 ∨ 258 < a) → m1 a = M a := fun a y z => by rw [f1 a (by omega), xwr_a _ (by omega)]
  have g2 : ∀ a : Int, a ≠ 310 → a ≠ 310 + 11 → (xwr (xwr m1 310 0 0) (310 + 11) h x) a = m1 a := fun a y z => by rw [xwr_a _ z, xwr_a _ y]
  refine ⟨m1, e1, g1 0 (by omega) (by omega), fun a ha => g1 a (by omega) (by omega), by rw [g2 0 (by omega) (by omega), g1 0 (by omega) (by omega)], ?_⟩
  have z310 : ∀ j : Int, j ≠ 0 → (xwr (xwr m1 310 0 0) (310 + 11) h x) 310 j = M 310 j := fun j hj => by rw [xwr_n _ (by omega), xwr_n _ (by omega), g1 310 (by omega) (by omega)]
  refine Sim_0 (V := xwr (xVw M 16) 10 h x) S (fun a ha => ?_) (z310 6 (by decide)) (z310 14 (by decide)) (z310 15 (by decide)) (fun a j a0 a1 => ?_) W' ?_ (fun w w1 _ => xSg_w w1 (fun a a0 a1 => ?_) (by omega)) (fun _ => ⟨?_, ?_⟩)
  · rw [g2 a (by omega) (by omega), g1 a (by omega) (by omega)]
  · show (xwr (xwr m1 310 0 0) (310 + 11) h x) (16 + a) j = _
    rw [g2 _ (by omega) (by omega), f1 _ (by omega), xwr_at, xwr_at]
    by_cases y : a = 10 ∧ j = h
    · rw [if_pos y, if_pos (by omega)]
    · rw [if_neg y, if_neg (by omega)]; rfl
  · refine Q0_10 ⟨xQd_go Q.1 (fun a a0 a1 => ?_), ?_⟩
    · rw [xwr_a _ (by omega), g1 a (by omega) (by omega)]
    · rw [xwr_a _ (by omega), g1 _ (by omega) (by omega)]; exact Q.2
  · rw [xwr_a _ (by omega), g1 a (by omega) (by omega)]
  · exact xLook_go W'.1 l1 (fun a a0 a1 _ => by rw [g2 a (by omega) (by omega), f1 a (by omega)])
  · unfold xCs at c1 ⊢
    rw [g2 (256 + 1) (by omega) (by omega), g2 (256 + 2) (by omega) (by omega)]
    exact c1
theorem call_12 {M : xM} (S : Sim M) (h x : Int) : xC3 (fD_plan 1 h x M) (fQ_plan 310 h x) M := by
  have K : xKp M (xwr M 310 0 0) := xKp_w (xKp_rfl M) (by decide) (by decide) (by decide)
  have W := S.2.2.1.1
  have Q := S.2.2.1.2
  have hH := W.1.2.1
  have hv : xPv M (1 + 15) (xVw M 16) := xPv_V M 16
  by_cases h1 : 0 ≤ h ∧ h < xVw M 16 0 1
  · have hp := W2h W h1.1 h1.2
    by_cases hx : x = -1 ∨ (0 ≤ x ∧ x < xVw M 16 0 0)
    · obtain ⟨m1, e1, z1, f1, z2, T⟩ := plan_s S h1.1 (by omega) hp hx
      have Q1 : xQ0 (xwr m1 310 0 0) 310 0 (xVw M 16) := ⟨xQd_go Q.1 (fun a a0 a1 => by rw [xwr_a _ (by omega), f1 a (by omega)]), by rw [xwr_a _ (by omega), f1 _ (by omega)]; exact Q.2⟩
      have q6 := Q1.1.2.2.2.2.2 h h1.1 (by omega)
      rw [show 24 * (0 : Int) + h = h by omega] at q6
      refine ⟨xVw M 16 10 h, m1, _, ?_, z1, ?_, z2, T⟩
      · unfold fD_plan
        rw [hasHour_s, hasCell_s, xPv_0 hv 0 (by decide) (by decide), xPv_0 hv 1 (by decide) (by decide)]
        simp only [if10]
        rw [if_neg (not_not_intro h1)]
        by_cases e : x = -1
        · rw [if_pos e, xA_p (by omega), xA_p (by omega), e1]; rfl
        · rw [if_neg e, if_neg (not_not_intro (hx.resolve_left e)), xA_p (by omega), xA_p (by omega), e1]; rfl
      · unfold fQ_plan
        rw [qHour_s Q1 W, qCell_s Q1 W, q6]
        simp only [if10]
        rw [if_neg (not_not_intro h1)]
        by_cases e : x = -1
        · rw [if_pos e, xA_p (by omega), xA_p (by omega)]
        · rw [if_neg e, if_neg (not_not_intro (hx.resolve_left e)), xA_p (by omega), xA_p (by omega)]
    · have dd : fD_plan 1 h x M = some (-2, M) := by
        unfold fD_plan
        rw [hasHour_s, hasCell_s, xPv_0 hv 0 (by decide) (by decide), xPv_0 hv 1 (by decide) (by decide)]
        simp only [if10]
        rw [if_neg (not_not_intro h1), if_neg (fun y => hx (Or.inl y)), if_pos (fun y => hx (Or.inr y))]
      rw [dd]
      refine xC3_k S ?_ K
      unfold fQ_plan
      rw [qHour_s (xQ0_kp Q K) W, qCell_s (xQ0_kp Q K) W]
      simp only [if10]
      rw [if_neg (not_not_intro h1), if_neg (fun y => hx (Or.inl y)), if_pos (fun y => hx (Or.inr y))]
  · have dd : fD_plan 1 h x M = some (-2, M) := by
      unfold fD_plan
      rw [hasHour_s, xPv_0 hv 1 (by decide) (by decide)]
      simp only [if10]
      rw [if_pos h1]
    rw [dd]
    refine xC3_k S ?_ K
    unfold fQ_plan
    rw [qHour_s (xQ0_kp Q K) W]
    simp only [if10]
    rw [if_pos h1]
theorem cellQ_L {m : xM} {c F : Int} (hF : m (310 + 7) 5 = F) (F8 : F ≤ 8) : ∀ (k g i : Nat) (a : Int), k < g → (i : Int) + k = F → a = xnk m (310 + 9) 0 c i → 0 ≤ a → a ≤ i → fQ_cell_L52 g 310 c a (i : Int) m = some (xnk m (310 + 9) 0 c F.toNat, m)
  | _, 0, _, _, hg, _, _, _, _ => absurd hg (Nat.not_lt_zero _)
  | 0, g + 1, i, a, _, hi, ha, _, _ => by
    unfold fQ_cell_L52
    rw [hF, if_neg (by omega), ha, show F.toNat = i by omega]
  | k + 1, g + 1, i, a, hg, hi, ha, a0, a1 => by
    have st : xnk m (310 + 9) 0 c (i + 1) = a + (if m (310 + 9) (3 * (i : Int)) = c then 1 else 0) := by
      rw [xnk, ← ha, show 24 * (0 : Int) + 3 * (i : Int) = 3 * (i : Int) by omega]
    unfold fQ_cell_L52
    rw [hF, if_pos (by omega), xw32_id (x := 3 * (i : Int)) (by omega) (by omega), xA_p (by omega), xw32_id (x := a + 1) (by omega) (by omega), xw32_id (x := a + 0) (by omega) (by omega), xw32_id (x := (i : Int) + 1) (by omega) (by omega)]
    by_cases e : m (310 + 9) (3 * (i : Int)) = c
    · rw [if_pos e] at st ⊢
      exact cellQ_L hF F8 k g (i + 1) _ (by omega) (by omega) st.symm (by omega) (by omega)
    · rw [if_neg e] at st ⊢
      exact cellQ_L hF F8 k g (i + 1) _ (by omega) (by omega) st.symm (by omega) (by omega)
theorem call_4 {M : xM} (S : Sim M) (c w : Int) : xC1 (fD_cell 1 c w M) (fQ_cell 310 c w M) M := by
  obtain ⟨V, hv, W, Q, K, Q0, L⟩ := opn S
  have hN := W.1.1
  by_cases h1 : 0 ≤ c ∧ c < V 0 0
  · have b : ∀ d : Option Int, (if ((if 0 ≤ c ∧ c < V 0 0 then (1 : Int) else 0) = 0) then some (-2) else d) = d := fun d => by simp only [if10]; rw [if_neg (not_not_intro h1)]
    obtain ⟨q0, q1, q2, q3, q4, q5⟩ := Q0.1.2.1 c h1.1 (by omega)
    simp only [show 54 * (0 : Int) + 6 * c = 6 * c by omega] at q0 q1 q2 q3 q4 q5
    have qq : ∀ j : Int, 0 ≤ j → j < 6 → fQ_cell 310 c j M = some ((xwr M 310 0 0) (310 + 8) (6 * c + j), xwr M 310 0 0) := fun j j0 j1 => by
      unfold fQ_cell
      rw [qCell_s Q0 W, fQ_in_s]
      simp only [if10]
      rw [if_neg (not_not_intro h1), if_neg (not_not_intro (show 0 ≤ j ∧ j ≤ 6 by omega)), if_pos j1, xw32_id (x := 6 * c) (by omega) (by omega), xw32_id (x := 6 * c + j) (by omega) (by omega), xA_p (by omega)]
    have hc : fPrison_hasCell (1 + 15) c M = if 0 ≤ c ∧ c < V 0 0 then 1 else 0 := by rw [hasCell_s, xPv_0 hv 0 (by decide) (by decide)]
    by_cases h2 : 0 ≤ w ∧ w ≤ 6
    · have cs : w = 0 ∨ w = 1 ∨ w = 2 ∨ w = 3 ∨ w = 4 ∨ w = 5 ∨ w = 6 := by omega
      rcases cs with rfl | rfl | rfl | rfl | rfl | rfl | rfl
      · have d : fD_cell 1 c 0 M = (if fPrison_hasCell (1 + 15) c M = 0 then some (-2) else xA (0 ≤ c ∧ c < 9) (some (M ((1 + 15) + 1) c))) := rfl
        rw [d, hc, b, xA_p (by omega), qq 0 (by decide) (by decide), Int.add_zero, q0, xPv_1 hv 1 c (by decide) (by decide) h1.1 (by omega)]
        exact xC1_eq rfl rfl K
      · have d : fD_cell 1 c 1 M = (if fPrison_hasCell (1 + 15) c M = 0 then some (-2) else xA (0 ≤ c ∧ c < 9) (some (M ((1 + 15) + 2) c))) := rfl
        rw [d, hc, b, xA_p (by omega), qq 1 (by decide) (by decide), q1, xPv_1 hv 2 c (by decide) (by decide) h1.1 (by omega)]
        exact xC1_eq rfl rfl K
      · have d : fD_cell 1 c 2 M = (if fPrison_hasCell (1 + 15) c M = 0 then some (-2) else xA (0 ≤ c ∧ c < 9) (some (M ((1 + 15) + 3) c))) := rfl
        rw [d, hc, b, xA_p (by omega), qq 2 (by decide) (by decide), q2, xPv_1 hv 3 c (by decide) (by decide) h1.1 (by omega)]
        exact xC1_eq rfl rfl K
      · have d : fD_cell 1 c 3 M = (if fPrison_hasCell (1 + 15) c M = 0 then some (-2) else xA (0 ≤ (xw32 ((xw32 (2 * c)) + 0)) ∧ (xw32 ((xw32 (2 * c)) + 0)) < 18) (some (M ((1 + 15) + 6) (xw32 ((xw32 (2 * c)) + 0))))) := rfl
        rw [d, hc, b, Int.add_zero, xw32_id (x := 2 * c) (by omega) (by omega), xw32_id (x := 2 * c) (by omega) (by omega), xA_p (by omega), qq 3 (by decide) (by decide), q3, xPv_6 hv (2 * c) (by omega) (by omega)]
        exact xC1_eq rfl rfl K
      · have d : fD_cell 1 c 4 M = (if fPrison_hasCell (1 + 15) c M = 0 then some (-2) else xA (0 ≤ (xw32 ((xw32 (2 * c)) + 1)) ∧ (xw32 ((xw32 (2 * c)) + 1)) < 18) (some (M ((1 + 15) + 6) (xw32 ((xw32 (2 * c)) + 1))))) := rfl
        rw [d, hc, b, xw32_id (x := 2 * c) (by omega) (by omega), xw32_id (x := 2 * c + 1) (by omega) (by omega), xA_p (by omega), qq 4 (by decide) (by decide), q4, xPv_6 hv (2 * c + 1) (by omega) (by omega)]
        exact xC1_eq rfl rfl K
      · have d : fD_cell 1 c 5 M = (if fPrison_hasCell (1 + 15) c M = 0 then some (-2) else some (fD_bit (M (1 + 15) 4) c M)) := rfl
        rw [d, hc, b, qq 5 (by decide) (by decide), q5, fD_bit_s _ M h1.1 (by omega), xPv_0 hv 4 (by decide) (by decide)]
        exact xC1_eq rfl rfl K
      · have d : fD_cell 1 c 6 M = (if fPrison_hasCell (1 + 15) c M = 0 then some (-2) else xA (0 ≤ c ∧ c < 9) (some (M ((1 + 15) + 4) c))) := rfl
        have F := W.2.2.2.2.2.2.2.1
        rw [d, hc, b, xA_p (by omega), xPv_1 hv 4 c (by decide) (by decide) h1.1 (by omega), Q0.1.2.2.2.1 c h1.1 (by omega)]
        refine xC1_eq rfl ?_ K
        unfold fQ_cell
        rw [qCell_s Q0 W, fQ_in_s]
        simp only [if10]
        rw [if_neg (not_not_intro h1), if_neg (not_not_intro (show (0 : Int) ≤ 6 ∧ (6 : Int) ≤ 6 by decide)), if_neg (show ¬ (6 : Int) < 6 by decide)]
        exact cellQ_L (F := V 0 6) Q0.1.1.2.2.2.2.1 F.2 (V 0 6).toNat 20001 0 0 (by omega) (by omega) rfl (by decide) (by decide)
    · have d : fD_cell 1 c w M = some (-2) := by
        unfold fD_cell
        rw [hc, b]
        by_cases a : w < 0
        · rw [if_pos a]
        · rw [if_neg a, if_neg (by omega), if_neg (by omega), if_neg (by omega), if_neg (by omega), if_neg (by omega), if_neg (by omega), if_neg (by omega)]
      rw [d]
      refine xC1_eq rfl ?_ K
      unfold fQ_cell
      rw [qCell_s Q0 W, fQ_in_s]
      simp only [if10]
      rw [if_neg (not_not_intro h1), if_pos h2]
  · have d : fD_cell 1 c w M = some (-2) := by
      unfold fD_cell
      rw [hasCell_s, xPv_0 hv 0 (by decide) (by decide)]
      simp only [if10]
      rw [if_pos h1]
    rw [d]
    refine xC1_eq rfl ?_ K
    unfold fQ_cell
    rw [qCell_s Q0 W]
    simp only [if10]
    rw [if_pos h1]
end
