/-! count, keep, back -/
noncomputable section
def xdt (V : xM) (h : Nat) : Int := if V 10 (h : Int) = -1 then 0 else 1
theorem triedD_L {m V : xM} (hv : xPv m (1 + 15) V) (W : xWF V) : ∀ (k g i : Nat) (a : Int), k < g → (i : Int) + k = V 0 1 → 0 ≤ a → a ≤ i → fPrison_doorsTried_L4 g (1 + 15) a (i : Int) m = some (xsm (xdt V) k i a)
  | _, 0, _, _, hg, _, _, _ => absurd hg (Nat.not_lt_zero _)
  | 0, g + 1, i, a, _, hi, _, _ => by
    unfold fPrison_doorsTried_L4 xsm
    rw [xPv_0 hv 1 (by decide) (by decide), if_neg (by omega)]
  | k + 1, g + 1, i, a, hg, hi, a0, a1 => by
    have hH := W.2.1
    unfold fPrison_doorsTried_L4
    rw [xPv_0 hv 1 (by decide) (by decide), if_pos (by omega), xA_p (by omega), xPv_10 hv (i : Int) (by omega) (by omega), xw32_id (x := (i : Int) + 1) (by omega) (by omega), xw32_id (x := a + 1) (by omega) (by omega), xsm]
    by_cases e : V 10 (i : Int) = -1
    · rw [if_pos e, show xdt V i = 0 from if_pos e, Int.add_zero]
      exact triedD_L hv W k g (i + 1) a (by omega) (by omega) a0 (by omega)
    · rw [if_neg e, show xdt V i = 1 from if_neg e]
      exact triedD_L hv W k g (i + 1) (a + 1) (by omega) (by omega) (by omega) (by omega)
theorem triedQ_L {m V : xM} (Q : xQ0 m 310 0 V) (W : xWF V) : ∀ (k g i : Nat) (a : Int), k < g → (i : Int) + k = V 0 1 → 0 ≤ a → a ≤ i → fQ_count_L124 g 310 a (i : Int) m = some (xsm (xdt V) k i a, m)
  | _, 0, _, _, hg, _, _, _ => absurd hg (Nat.not_lt_zero _)
  | 0, g + 1, i, a, _, hi, _, _ => by
    have h1 : m (310 + 7) 1 = V 0 1 := Q.1.1.2.2.1
    unfold fQ_count_L124 xsm
    rw [h1, if_neg (by omega)]
  | k + 1, g + 1, i, a, hg, hi, a0, a1 => by
    have hH := W.2.1
    have h1 : m (310 + 7) 1 = V 0 1 := Q.1.1.2.2.1
    have h10 := Q.1.2.2.2.2.2 (i : Int) (by omega) (by omega)
    rw [show 24 * (0 : Int) + (i : Int) = (i : Int) by omega] at h10
    unfold fQ_count_L124
    rw [h1, if_pos (by omega), xA_p (by omega), h10, xw32_id (x := (i : Int) + 1) (by omega) (by omega), xw32_id (x := a + 1) (by omega) (by omega), xw32_id (x := a + 0) (by omega) (by omega), xsm]
    by_cases e : V 10 (i : Int) = -1
    · rw [if_pos e, show xdt V i = 0 from if_pos e]
      exact triedQ_L Q W k g (i + 1) _ (by omega) (by omega) (by omega) (by omega)
    · rw [if_neg e, show xdt V i = 1 from if_neg e]
      exact triedQ_L Q W k g (i + 1) (a + 1) (by omega) (by omega) (by omega) (by omega)
def xrh (M : xM) (s : Nat) : Int := if M 311 (s : Int) = -1 then 0 else 1
theorem rowsD_L {M : xM} (S : Sim M) : ∀ (k g i : Nat) (a : Int), k < g → i + k = 4 → 0 ≤ a → a ≤ i → fD_rowsHeld_L4 g 1 a (i : Int) M = some (xsm (xrh M) k i a)
  | _, 0, _, _, hg, _, _, _ => absurd hg (Nat.not_lt_zero _)
  | 0, g + 1, i, a, _, hi, _, _ => by
    unfold fD_rowsHeld_L4 xsm
    rw [if_neg (by omega)]
  | k + 1, g + 1, i, a, hg, hi, a0, a1 => by
    have T := Sim_sl S (s := (i : Int)) (by omega) (by omega)
    have e : M (302 + 2 * (i : Int)) 0 = 0 ↔ M 311 (i : Int) = -1 := by
      rcases T with ⟨x, y⟩ | ⟨x, _, y, _⟩ <;> constructor <;> intro h <;> omega
    unfold fD_rowsHeld_L4
    rw [if_pos (by omega), xA_p (by omega), show 1 + 267 + 34 + 2 * (i : Int) = 302 + 2 * (i : Int) by omega, xw32_id (x := (i : Int) + 1) (by omega) (by omega), xw32_id (x := a + 1) (by omega) (by omega), xsm]
    by_cases x : M 311 (i : Int) = -1
    · rw [if_pos (e.mpr x), show xrh M i = 0 from if_pos x, Int.add_zero]
      exact rowsD_L S k g (i + 1) a (by omega) (by omega) a0 (by omega)
    · rw [if_neg (fun y => x (e.mp y)), show xrh M i = 1 from if_neg x]
      exact rowsD_L S k g (i + 1) (a + 1) (by omega) (by omega) (by omega) (by omega)
theorem rowsQ_L {M m : xM} (h : m (310 + 1) = M 311) : ∀ (k g i : Nat) (a : Int), k < g → i + k = 4 → 0 ≤ a → a ≤ i → fQ_count_L162 g 310 a (i : Int) m = some (xsm (xrh M) k i a, m)
  | _, 0, _, _, hg, _, _, _ => absurd hg (Nat.not_lt_zero _)
  | 0, g + 1, i, a, _, hi, _, _ => by
    unfold fQ_count_L162 xsm
    rw [if_neg (by omega)]
  | k + 1, g + 1, i, a, hg, hi, a0, a1 => by
    unfold fQ_count_L162
    rw [if_pos (by omega), xA_p (by omega), h, xw32_id (x := (i : Int) + 1) (by omega) (by omega), xw32_id (x := a + 1) (by omega) (by omega), xw32_id (x := a + 0) (by omega) (by omega), xsm]
    by_cases x : M 311 (i : Int) = -1
    · rw [if_pos x, show xrh M i = 0 from if_pos x]
      exact rowsQ_L h k g (i + 1) _ (by omega) (by omega) (by omega) (by omega)
    · rw [if_neg x, show xrh M i = 1 from if_neg x]
      exact rowsQ_L h k g (i + 1) (a + 1) (by omega) (by omega) (by omega) (by omega)
theorem call_60 {M : xM} (S : Sim M) (w : Int) : xC1 (fD_count 1 w M) (fQ_count 310 w M) M := by
  obtain ⟨V, hv, W, Q, K, Q0, L⟩ := opn S
  obtain ⟨⟨a1, a2, a3, a4, a5, a6⟩, -⟩ := Q0.1
  have ar := Q0.2
  have hH := W.1.2.1
  by_cases h : 0 ≤ w ∧ w ≤ 9
  · have cs : w = 0 ∨ w = 1 ∨ w = 2 ∨ w = 3 ∨ w = 4 ∨ w = 5 ∨ w = 6 ∨ w = 7 ∨ w = 8 ∨ w = 9 := by omega
    rcases cs with rfl | rfl | rfl | rfl | rfl | rfl | rfl | rfl | rfl | rfl
    · have d : fD_count 1 0 M = some (M (1 + 15) 0) := rfl
      have q : fQ_count 310 0 M = some ((xwr M 310 0 0) (310 + 7) 0, xwr M 310 0 0) := rfl
      have a2 : (xwr M 310 0 0) (310 + 7) 0 = V 0 0 := a2
      rw [d, q, a2, xPv_0 hv 0 (by decide) (by decide)]
      exact xC1_eq rfl rfl K
    · have d : fD_count 1 1 M = some (M (1 + 15) 1) := rfl
      have q : fQ_count 310 1 M = some ((xwr M 310 0 0) (310 + 7) 1, xwr M 310 0 0) := rfl
      have a3 : (xwr M 310 0 0) (310 + 7) 1 = V 0 1 := a3
      rw [d, q, a3, xPv_0 hv 1 (by decide) (by decide)]
      exact xC1_eq rfl rfl K
    · have d : fD_count 1 2 M = some (fJI_bitCount (M (1 + 15) 5) M) := rfl
      have q : fQ_count 310 2 M = xB (fQ_sizeOf ((xwr M 310 0 0) (310 + 7) 4) (xwr M 310 0 0)) (fun v1 => some (v1, (xwr M 310 0 0))) := rfl
      have a4 : (xwr M 310 0 0) (310 + 7) 4 = V 0 5 := a4
      have r := quar_9 W
      rw [d, q, a4, xPv_0 hv 5 (by decide) (by decide), JI_bc ⟨r.1, by omega⟩, sizeOf_s _ r.1 (by omega)]
      exact xC1_eq rfl rfl K
    · have d : fD_count 1 3 M = some (M (1 + 15) 6) := rfl
      have q : fQ_count 310 3 M = some ((xwr M 310 0 0) (310 + 7) 5, xwr M 310 0 0) := rfl
      have a5 : (xwr M 310 0 0) (310 + 7) 5 = V 0 6 := a5
      rw [d, q, a5, xPv_0 hv 6 (by decide) (by decide)]
      exact xC1_eq rfl rfl K
    · have d : fD_count 1 4 M = some (M (1 + 15) 7) := rfl
      have q : fQ_count 310 4 M = some ((xwr M 310 0 0) (310 + 7) 6, xwr M 310 0 0) := rfl
      have a6 : (xwr M 310 0 0) (310 + 7) 6 = V 0 7 := a6
      rw [d, q, a6, xPv_0 hv 7 (by decide) (by decide)]
      exact xC1_eq rfl rfl K
    · have d : fD_count 1 5 M = some (M (1 + 15) 2) := rfl
      have q : fQ_count 310 5 M = some ((xwr M 310 0 0) (310 + 6) 0, xwr M 310 0 0) := rfl
      rw [d, q, a1, xPv_0 hv 2 (by decide) (by decide)]
      exact xC1_eq rfl rfl K
    · have d : fD_count 1 6 M = some (M ((1 + 1) + 1) 1) := rfl
      have q : fQ_count 310 6 M = some ((xwr M 310 0 0) 310 6, xwr M 310 0 0) := rfl
      have e : (xwr M 310 0 0) 310 6 = M ((1 + 1) + 1) 1 := by rw [xwr_n _ (by omega)]; exact S.1.1.symm
      rw [d, q, e]
      exact xC1_eq rfl rfl K
    · have d : fD_count 1 7 M = some (if (M (1 + 15) 3) = 0 then 0 else 1) := rfl
      have q : fQ_count 310 7 M = some ((xwr M 310 0 0) (310 + 7) 3, xwr M 310 0 0) := rfl
      have ar : (xwr M 310 0 0) (310 + 7) 3 = V 0 3 := ar
      have r3 := W.1.2.2.1
      have e : (if V 0 3 = 0 then (0 : Int) else 1) = V 0 3 := by split <;> omega
      rw [d, q, ar, xPv_0 hv 3 (by decide) (by decide), e]
      exact xC1_eq rfl rfl K
    · have d : fD_count 1 8 M = xB (fPrison_doorsTried (1 + 15) M) (fun v2 => some v2) := rfl
      have q : fQ_count 310 8 M = fQ_count_L124 20001 310 0 0 (xwr M 310 0 0) := rfl
      have d2 : fPrison_doorsTried (1 + 15) M = _ := triedD_L hv W.1 (V 0 1).toNat 20001 0 0 (by omega) (by omega) (by decide) (by decide)
      have q2 := triedQ_L Q0 W.1 (V 0 1).toNat 20001 0 0 (by omega) (by omega) (by decide) (by decide)
      rw [d, q, d2]
      exact xC1_eq rfl q2 K
    · have d : fD_count 1 9 M = xB (fD_rowsHeld 1 M) (fun v3 => some v3) := rfl
      have q : fQ_count 310 9 M = fQ_count_L162 20001 310 0 0 (xwr M 310 0 0) := rfl
      have d2 : fD_rowsHeld 1 M = _ := rowsD_L S 4 20001 0 0 (by decide) (by decide) (by decide) (by decide)
      have q2 := rowsQ_L (M := M) (m := xwr M 310 0 0) (xwr_a _ (by decide)) 4 20001 0 0 (by decide) (by decide) (by decide) (by decide)
      rw [d, q, d2]
      exact xC1_eq rfl q2 K
  · have d : fD_count 1 w M = some (-1) := by
      unfold fD_count
      by_cases a : w < 0
      · rw [if_pos a]
      · rw [if_neg a, if_neg (by omega), if_neg (by omega), if_neg (by omega), if_neg (by omega), if_neg (by omega), if_neg (by omega), if_neg (by omega), if_neg (by omega), if_neg (by omega), if_neg (by omega)]
    have q : fQ_count 310 w M = some (-1, xwr M 310 0 0) := by
      unfold fQ_count
      by_cases a : w < 0
      · rw [if_pos a]
      · rw [if_neg a, if_neg (by omega), if_neg (by omega), if_neg (by omega), if_neg (by omega), if_neg (by omega), if_neg (by omega), if_neg (by omega), if_neg (by omega), if_neg (by omega), if_neg (by omega)]
    rw [d, q]
    exact xC1_eq rfl rfl K
end
