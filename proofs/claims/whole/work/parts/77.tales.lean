/-! tales: what bars the way to one -/
noncomputable section
def xtk (T : Int → Int) (H N i : Int) : Bool := decide (0 ≤ T i ∧ T i < H) && (decide (0 ≤ T (i + 1) ∧ T (i + 1) < N) && decide (0 ≤ T (i + 2) ∧ T (i + 2) < 2))
def xtl (T : Int → Int) (H N : Int) : Nat → Nat → Bool
  | 0, _ => true
  | n + 1, j => xtk T H N (3 * (j : Int)) && xtl T H N n (j + 1)
def xri (T : Int → Int) : Nat → Nat → Bool
  | 0, _ => true
  | n + 1, j => decide (T (3 * (j : Int) - 3) < T (3 * (j : Int))) && xri T n (j + 1)
def xtq (T : Int → Int) (H N : Int) (r : Bool) : Nat → Nat → Int → Bool
  | 0, _, _ => true
  | n + 1, j, last => xtk T H N (3 * (j : Int)) && ((!r || decide (last < T (3 * (j : Int)))) && xtq T H N r n (j + 1) (T (3 * (j : Int))))
theorem isBelow_s (x n : Int) (M : xM) : fSlot_isBelow x n M = if 0 ≤ x ∧ x < n then 1 else 0 := by
  unfold fSlot_isBelow
  simp only [xcmp_lt, xcmp_gt]
  (repeat' split) <;> first | rfl | omega
theorem tells_L {m : xM} {r H N : Int} {L : Int} (hL : m r 2 = L) (L60 : L ≤ 60) {T : Int → Int} (hT : ∀ i : Int, 0 ≤ i → i < L → m (r + 1) i = T i) : ∀ (n g j : Nat), n < g → 3 * (j : Int) + 3 * n = L → fSlot_tells_L13 g r H N (3 * (j : Int)) m = some (if xtl T H N n j = true then 1 else 0)
  | _, 0, _, hg, _ => absurd hg (Nat.not_lt_zero _)
  | 0, g + 1, j, _, hj => by
    unfold fSlot_tells_L13 xtl
    rw [hL, xw32_id (by omega) (by omega), if_neg (by omega), if_pos rfl]
  | n + 1, g + 1, j, hg, hj => by
    have IH := tells_L (H := H) (N := N) hL L60 hT n g (j + 1) (by omega) (by omega)
    unfold fSlot_tells_L13 xtl
    rw [hL, xw32_id (x := 3 * (j : Int) + 2) (by omega) (by omega), if_pos (by omega), xA_p (by omega), xw32_id (x := 3 * (j : Int) + 1) (by omega) (by omega), xA_p (by omega), xA_p (by omega), xw32_id (x := 3 * (j : Int) + 3) (by omega) (by omega), hT _ (by omega) (by omega), hT _ (by omega) (by omega), hT _ (by omega) (by omega), isBelow_s, isBelow_s, isBelow_s]
    rw [show 3 * ((j + 1 : Nat) : Int) = 3 * (j : Int) + 3 by omega] at IH
    simp only [if10]
    unfold xtk
    by_cases a : 0 ≤ T (3 * (j : Int)) ∧ T (3 * (j : Int)) < H
    · rw [if_neg (not_not_intro a), decide_eq_true a, Bool.true_and]
      by_cases b : 0 ≤ T (3 * (j : Int) + 1) ∧ T (3 * (j : Int) + 1) < N
      · rw [if_neg (not_not_intro b), decide_eq_true b, Bool.true_and]
        by_cases c : 0 ≤ T (3 * (j : Int) + 2) ∧ T (3 * (j : Int) + 2) < 2
        · rw [if_neg (not_not_intro c), decide_eq_true c, Bool.true_and]; exact IH
        · rw [if_pos c, decide_eq_false c, Bool.false_and, if_neg (by decide)]
      · rw [if_pos b, decide_eq_false b, Bool.false_and, Bool.false_and, if_neg (by decide)]
    · rw [if_pos a, decide_eq_false a, Bool.false_and, Bool.false_and, if_neg (by decide)]
theorem rises_L {m : xM} {r : Int} {L : Int} (hL : m r 2 = L) (L60 : L ≤ 60) {T : Int → Int} (hT : ∀ i : Int, 0 ≤ i → i < L → m (r + 1) i = T i) : ∀ (n g j : Nat), n < g → 1 ≤ j → 3 * (j : Int) + 3 * n = L → fSlot_rises_L2 g r (3 * (j : Int)) m = some (if xri T n j = true then 1 else 0)
  | _, 0, _, hg, _, _ => absurd hg (Nat.not_lt_zero _)
  | 0, g + 1, j, _, _, hj => by
    unfold fSlot_rises_L2 xri
    rw [hL, if_neg (by omega), if_pos rfl]
  | n + 1, g + 1, j, hg, h1, hj => by
    have IH := rises_L hL L60 hT n g (j + 1) (by omega) (by omega) (by omega)
    rw [show 3 * ((j + 1 : Nat) : Int) = 3 * (j : Int) + 3 by omega] at IH
    unfold fSlot_rises_L2 xri
    rw [hL, if_pos (by omega), xA_p (by omega), xw32_id (x := 3 * (j : Int) - 3) (by omega) (by omega), xA_p (by omega), xw32_id (x := 3 * (j : Int) + 3) (by omega) (by omega), hT _ (by omega) (by omega), hT _ (by omega) (by omega)]
    by_cases a : T (3 * (j : Int) - 3) < T (3 * (j : Int))
    · rw [if_pos ((xcmp_gt _ _).mpr a), decide_eq_true a, Bool.true_and]; exact IH
    · rw [if_neg (fun y => a ((xcmp_gt _ _).mp y)), decide_eq_false a, Bool.false_and, if_neg (by decide)]
theorem whyQ_L {m V : xM} {s x2 : Int} (Q : xQ0 m 310 0 V) (W : xWE V) (s0 : 0 ≤ s) (s1 : s < 4) {L : Int} (hL : m (310 + 2) s = L) (L60 : L ≤ 60) {T : Int → Int} (hT : ∀ i : Int, 0 ≤ i → i < L → m (310 + 3) (60 * s + i) = T i) : ∀ (n g j : Nat) (last : Int), n < g → 3 * (j : Int) + 3 * n = L → fQ_whyNot_L51 g 310 s x2 last (3 * (j : Int)) m = some (if xtq T (V 0 1) (V 0 0) (decide (x2 = 0)) n j last = true then 0 else -2)
  | _, 0, _, _, hg, _ => absurd hg (Nat.not_lt_zero _)
  | 0, g + 1, j, last, _, hj => by
    unfold fQ_whyNot_L51 xtq
    rw [xA_p (by omega), hL, if_neg (by omega), if_pos rfl]
  | n + 1, g + 1, j, last, hg, hj => by
    have IH := whyQ_L (x2 := x2) Q W s0 s1 hL L60 hT n g (j + 1) (T (3 * (j : Int))) (by omega) (by omega)
    rw [show 3 * ((j + 1 : Nat) : Int) = 3 * (j : Int) + 3 by omega] at IH
    have t1 := hT (3 * (j : Int) + 1) (by omega) (by omega)
    have t2 := hT (3 * (j : Int) + 2) (by omega) (by omega)
    rw [← Int.add_assoc] at t1 t2
    unfold fQ_whyNot_L51 xtq
    rw [xA_p (by omega), hL, if_pos (by omega), xw32_id (x := 60 * s) (by omega) (by omega), xw32_id (x := 60 * s + 3 * (j : Int)) (by omega) (by omega), xw32_id (x := 60 * s + 3 * (j : Int) + 1) (by omega) (by omega), xw32_id (x := 60 * s + 3 * (j : Int) + 2) (by omega) (by omega), xA_p (by omega), xA_p (by omega), xA_p (by omega), xA_p (by omega), xA_p (by omega), xw32_id (x := 3 * (j : Int) + 3) (by omega) (by omega), hT _ (by omega) (by omega), t1, t2, qHour_s Q W, qCell_s Q W, qSide_s]
    simp only [if10]
    unfold xtk
    by_cases a : 0 ≤ T (3 * (j : Int)) ∧ T (3 * (j : Int)) < V 0 1
    · rw [if_neg (not_not_intro a), decide_eq_true a, Bool.true_and]
      by_cases b : 0 ≤ T (3 * (j : Int) + 1) ∧ T (3 * (j : Int) + 1) < V 0 0
      · rw [if_neg (not_not_intro b), decide_eq_true b, Bool.true_and]
        by_cases c : 0 ≤ T (3 * (j : Int) + 2) ∧ T (3 * (j : Int) + 2) < 2
        · rw [if_neg (show ¬ ¬ (T (3 * (j : Int) + 2) = 0 ∨ T (3 * (j : Int) + 2) = 1) from not_not_intro (by omega)), decide_eq_true c, Bool.true_and]
          by_cases e : x2 = 0
          · rw [if_pos e]
            by_cases d : last < T (3 * (j : Int))
            · rw [if_pos ((xcmp_gt _ _).mpr d), decide_eq_true d, Bool.or_true, Bool.true_and]; exact IH
            · rw [if_neg (fun y => d ((xcmp_gt _ _).mp y)), decide_eq_false d, decide_eq_true e]; rfl
          · rw [if_neg e, decide_eq_false e, Bool.not_false, Bool.true_or, Bool.true_and]
            rw [decide_eq_false e] at IH
            exact IH
        · rw [if_pos (show ¬ (T (3 * (j : Int) + 2) = 0 ∨ T (3 * (j : Int) + 2) = 1) from fun y => c (by omega)), decide_eq_false c, Bool.false_and, if_neg (by decide)]
      · rw [if_pos b, decide_eq_false b, Bool.false_and, Bool.false_and, if_neg (by decide)]
    · rw [if_pos a, decide_eq_false a, Bool.false_and, Bool.false_and, if_neg (by decide)]
theorem xtq_e (T : Int → Int) (H N : Int) (r : Bool) : ∀ n j : Nat, xtq T H N r n j (T (3 * (j : Int) - 3)) = (xtl T H N n j && (!r || xri T n j))
  | 0, _ => by unfold xtq xtl xri; simp
  | n + 1, j => by
    have ih := xtq_e T H N r n (j + 1)
    rw [show 3 * ((j + 1 : Nat) : Int) - 3 = 3 * (j : Int) by omega] at ih
    unfold xtq xtl xri
    rw [ih]
    cases xtk T H N (3 * (j : Int)) <;> cases xtl T H N n (j + 1) <;> cases r <;> cases decide (T (3 * (j : Int) - 3) < T (3 * (j : Int))) <;> cases xri T n (j + 1) <;> rfl
theorem xtq_0 (T : Int → Int) (H N : Int) (r : Bool) : ∀ n : Nat, xtq T H N r n 0 (-1) = (xtl T H N n 0 && (!r || xri T (n - 1) 1))
  | 0 => by unfold xtq xtl; simp [xri]
  | n + 1 => by
    have ih := xtq_e T H N r n 1
    rw [show 3 * ((1 : Nat) : Int) - 3 = 3 * ((0 : Nat) : Int) by omega] at ih
    unfold xtq xtl
    rw [ih, show n + 1 - 1 = n from rfl]
    by_cases a : xtk T H N (3 * ((0 : Nat) : Int)) = true
    · have p : 0 ≤ T (3 * ((0 : Nat) : Int)) := by
        unfold xtk at a
        rw [Bool.and_eq_true] at a
        exact (of_decide_eq_true a.1).1
      rw [a, decide_eq_true (show -1 < T (3 * ((0 : Nat) : Int)) by omega)]
      cases xtl T H N n 1 <;> cases r <;> cases xri T n 1 <;> rfl
    · have a' : xtk T H N (3 * ((0 : Nat) : Int)) = false := by
        cases h : xtk T H N (3 * ((0 : Nat) : Int))
        · rfl
        · exact absurd h a
      rw [a', Bool.false_and, Bool.false_and, Bool.false_and]
end
