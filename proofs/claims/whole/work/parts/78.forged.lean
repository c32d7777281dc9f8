/-! tales: the bar, and forged nods of a cell -/
noncomputable section
theorem xtl_at {T : Int → Int} {H N : Int} : ∀ (n j : Nat), xtl T H N n j = true → ∀ k : Nat, j ≤ k → k < j + n → (0 ≤ T (3 * (k : Int)) ∧ T (3 * (k : Int)) < H) ∧ (0 ≤ T (3 * (k : Int) + 1) ∧ T (3 * (k : Int) + 1) < N) ∧ (0 ≤ T (3 * (k : Int) + 2) ∧ T (3 * (k : Int) + 2) < 2)
  | 0, _, _, k, a, b => absurd b (by omega)
  | n + 1, j, h, k, a, b => by
    unfold xtl at h
    rw [Bool.and_eq_true] at h
    by_cases e : k = j
    · subst e
      have x := h.1
      unfold xtk at x
      rw [Bool.and_eq_true, Bool.and_eq_true] at x
      exact ⟨of_decide_eq_true x.1, of_decide_eq_true x.2.1, of_decide_eq_true x.2.2⟩
    · exact xtl_at n (j + 1) h.2 k (by omega) (by omega)
def xRt (M : xM) (s : Int) : Int → Int := fun i => M 313 (60 * s + i)
def xTl (M V : xM) (s : Int) : Prop := (0 ≤ s ∧ s < 4) ∧ 2 ≤ V 0 0 ∧ ∃ n : Nat, M 312 s = 3 * (n : Int) ∧ n ≤ 20 ∧ M (302 + 2 * s) 2 = M 312 s ∧ (∀ i : Int, 0 ≤ i → i < M 312 s → M (303 + 2 * s) i = xRt M s i) ∧ xtl (xRt M s) (V 0 1) (V 0 0) n 0 = true
theorem bar_s {M V m : xM} (S : Sim M) (hv : xPv M (1 + 15) V) (W : xWE V) (Q : xQ0 m 310 0 V) (h1 : m (310 + 1) = M 311) (h2 : m (310 + 2) = M 312) (h3 : m (310 + 3) = M 313) (s a : Int) : ∃ r : Int, fD_barToTale 1 s a M = some r ∧ fQ_whyNot 310 s (if a = 0 then 1 else 0) m = some r ∧ (r = 0 → xTl M V s) := by
  unfold fD_barToTale fQ_whyNot
  rw [isSlot_s, qSlot_s, stands_s, qPrison_s Q W, xPv_0 hv 0 (by decide) (by decide), xPv_0 hv 1 (by decide) (by decide)]
  simp only [if10]
  by_cases g1 : 0 ≤ s ∧ s ≤ 3
  · rw [if_neg (not_not_intro g1), if_neg (not_not_intro g1)]
    by_cases g2 : 0 < V 0 0
    · rw [if_neg (not_not_intro g2), if_neg (not_not_intro g2), xA_p (by omega), xA_p (by omega), xA_p (by omega), xA_p (by omega), xA_p (by omega), show 1 + 267 + 34 + 2 * s = 302 + 2 * s by omega, h1, h2]
      rcases Sim_sl S g1.1 (show s < 4 by omega) with ⟨p1, p2⟩ | ⟨p1, p2, p3, p4, p5, p6⟩
      · rw [if_pos p1, if_pos p2]
        exact ⟨-6, rfl, rfl, fun y => absurd y (by decide)⟩
      · rw [if_neg (show ¬ M (302 + 2 * s) 0 = 0 by omega), if_neg (show ¬ M 311 s = -1 by omega)]
        have xr : xrem (M 312 s) 3 = M 312 s % 3 := by rw [xrem_eq, Int.tmod_eq_emod_of_nonneg p5.1]
        by_cases g3 : M 312 s % 3 = 0
        · obtain ⟨n, hn⟩ : ∃ n : Nat, M 312 s = 3 * (n : Int) := ⟨(M 312 s / 3).toNat, by omega⟩
          have hT : ∀ i : Int, 0 ≤ i → i < M 312 s → M (302 + 2 * s + 1) i = xRt M s i := fun i i0 i1 => by rw [show 302 + 2 * s + 1 = 303 + 2 * s by omega]; exact p6 i i0 i1
          have t := tells_L (r := 302 + 2 * s) (H := V 0 1) (N := V 0 0) p4 p5.2 hT n 20001 0 (by omega) (by omega)
          have t : fSlot_tells_L13 20001 (302 + 2 * s) (V 0 1) (V 0 0) 0 M = _ := t
          have q := whyQ_L (x2 := if a = 0 then 1 else 0) Q W g1.1 (show s < 4 by omega) (by rw [h2]) p5.2 (T := xRt M s) (fun i i0 i1 => by rw [h3]; rfl) n 20001 0 (-1) (by omega) (by omega)
          have q : fQ_whyNot_L51 20001 310 s (if a = 0 then 1 else 0) (-1) 0 m = _ := q
          unfold fSlot_tells
          rw [p4, xr, if_pos g3, if_pos g3, t, xB_s, q, xtq_0]
          have fin : xtl (xRt M s) (V 0 1) (V 0 0) n 0 = true → xTl M V s := fun y => ⟨⟨g1.1, by omega⟩, W2p W g2, n, hn, by omega, p4, p6, y⟩
          by_cases e : xtl (xRt M s) (V 0 1) (V 0 0) n 0 = true
          · rw [e, if_pos rfl, if_neg (by decide), Bool.true_and]
            by_cases z : a = 0
            · rw [if_pos z, if_pos z]
              exact ⟨0, rfl, rfl, fun _ => fin e⟩
            · rw [if_neg z, if_neg z]
              have rs : fSlot_rises (302 + 2 * s) M = some (if xri (xRt M s) (n - 1) 1 = true then 1 else 0) := by
                by_cases z : n = 0
                · subst z
                  unfold fSlot_rises
                  rw [fSlot_rises_L2, p4, if_neg (by omega)]
                  rfl
                · exact rises_L p4 p5.2 hT (n - 1) 20001 1 (by omega) (by decide) (by omega)
              rw [rs, xB_s]
              cases x : xri (xRt M s) (n - 1) 1
              · exact ⟨-2, rfl, rfl, fun y => absurd y (by decide)⟩
              · exact ⟨0, rfl, rfl, fun _ => fin e⟩
          · have e' : xtl (xRt M s) (V 0 1) (V 0 0) n 0 = false := by
              cases x : xtl (xRt M s) (V 0 1) (V 0 0) n 0
              · rfl
              · exact absurd x e
            rw [e', if_pos (show (if false = true then (1 : Int) else 0) = 0 from rfl), Bool.false_and, if_neg (show ¬ false = true by decide)]
            exact ⟨-2, rfl, rfl, fun y => absurd y (by decide)⟩
        · unfold fSlot_tells
          rw [p4, xr, if_neg g3, if_neg g3, xB_s, if_pos rfl]
          exact ⟨-2, rfl, rfl, fun y => absurd y (by decide)⟩
    · rw [if_pos g2, if_pos g2]
      exact ⟨-2, rfl, rfl, fun y => absurd y (by decide)⟩
  · rw [if_pos g1, if_pos g1]
    exact ⟨-2, rfl, rfl, fun y => absurd y (by decide)⟩
end
