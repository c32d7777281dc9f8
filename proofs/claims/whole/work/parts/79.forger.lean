/-! forged nods, by cell -/
noncomputable section
def xfj (V : xM) (T : Int → Int) (j : Nat) : Bool := decide (xwy V (T (3 * (j : Int) + 1)) (T (3 * (j : Int) + 2)) (T (3 * (j : Int))) (xgn V (T (3 * (j : Int))).toNat) ≠ 0)
/-- what triple j adds for cell c; c = -1: for all -/
def xfc (V : xM) (T : Int → Int) (c : Int) (j : Nat) : Int := if (c = -1 ∨ T (3 * (j : Int) + 1) = c) ∧ xfj V T j = true then 1 else 0
theorem xwy_0 {V : xM} {c s h g : Int} : xwy V c s h g ≠ 0 ↔ (xbt g c = true ∧ xLy V c = false) ∨ xwo V c s h ≠ 0 := by
  unfold xwo xwy xLy
  rw [xbt_0]
  by_cases e : xnb (V 0 0) (V 0 3) c s = -1
  · rw [if_pos e, if_pos e]; exact ⟨fun _ => Or.inr (by decide), fun _ => by decide⟩
  · rw [if_neg e, if_neg e]
    cases a : xbt g c <;> cases b : xbt (V 0 4) c <;> simp
theorem nodsD_L {m V : xM} {r c L : Int} (hv : xPv m (1 + 15) V) (W : xWE V) (C : xCs m (1 + 255) V) (hL : m r 2 = L) (L60 : L ≤ 60) {T : Int → Int} (hT : ∀ i : Int, 0 ≤ i → i < L → m (r + 1) i = T i) (c0 : 0 ≤ c) (c1 : c < V 0 0) (ok : ∀ k : Nat, 3 * (k : Int) < L → (0 ≤ T (3 * (k : Int)) ∧ T (3 * (k : Int)) < V 0 1) ∧ (0 ≤ T (3 * (k : Int) + 1) ∧ T (3 * (k : Int) + 1) < V 0 0) ∧ (0 ≤ T (3 * (k : Int) + 2) ∧ T (3 * (k : Int) + 2) < 2)) : ∀ (n g j : Nat) (a : Int), n < g → 3 * (j : Int) + 3 * n = L → 0 ≤ a → a ≤ j → fInquiry_forgedNods_L6 g (1 + 15) (1 + 255) r c a (3 * (j : Int)) m = some (xsm (xfc V T c) n j a)
  | _, 0, _, _, hg, _, _, _ => absurd hg (Nat.not_lt_zero _)
  | 0, g + 1, j, a, _, hj, _, _ => by
    unfold fInquiry_forgedNods_L6 xsm
    rw [hL, xw32_id (by omega) (by omega), if_neg (by omega)]
  | n + 1, g + 1, j, a, hg, hj, a0, a1 => by
    have hN := W.1.1
    have hH := W.1.2.1
    obtain ⟨o1, o2, o3⟩ := ok j (by omega)
    have IH := fun b : Int => nodsD_L hv W C hL L60 hT c0 c1 ok n g (j + 1) b (by omega) (by omega)
    rw [show 3 * ((j + 1 : Nat) : Int) = 3 * (j : Int) + 3 by omega] at IH
    rw [fInquiry_forgedNods_L6, xsm]
    rw [hL, xw32_id (x := 3 * (j : Int) + 2) (by omega) (by omega), if_pos (by omega), xA_p (by omega), xA_p (by omega), xw32_id (x := 3 * (j : Int) + 1) (by omega) (by omega), xA_p (by omega), hT _ (by omega) (by omega), hT _ (by omega) (by omega), hT _ (by omega) (by omega), xw32_id (x := T (3 * (j : Int))) (by omega) (by omega), xw32_id (x := T (3 * (j : Int) + 2)) (by omega) (by omega)]
    unfold fInquiry_forgedNods_L60
    rw [xw32_id (x := 3 * (j : Int) + 3) (by omega) (by omega), xw32_id (x := a + 1) (by omega) (by omega)]
    by_cases e : T (3 * (j : Int) + 1) = c
    · have gA := ahead_D C hH.2 (T (3 * (j : Int))).toNat (by omega)
      rw [show (((T (3 * (j : Int))).toNat : Nat) : Int) = T (3 * (j : Int)) by omega] at gA
      rw [if_pos ((xcmp_0 _ _).mpr e), if_neg (show ¬ (1 : Int) = 0 by decide), gA, xB_s, why_s hv W.1 c0 c1 (by omega) o1.1 (by omega), xB_s]
      by_cases f : xwy V c (T (3 * (j : Int) + 2)) (T (3 * (j : Int))) (xgn V (T (3 * (j : Int))).toNat) = 0
      · rw [if_pos f, show xfc V T c j = 0 from if_neg (fun y => by have z := of_decide_eq_true y.2; rw [e] at z; exact z f), Int.add_zero]
        exact IH a a0 (by omega)
      · rw [if_neg f, show xfc V T c j = 1 from if_pos ⟨Or.inr e, decide_eq_true (by rw [e]; exact f)⟩]
        exact IH (a + 1) (by omega) (by omega)
    · rw [if_neg (fun y => e ((xcmp_0 _ _).mp y)), if_pos rfl, show xfc V T c j = 0 from if_neg (fun y => by rcases y.1 with y | y; omega; exact e y), Int.add_zero]
      exact IH a a0 (by omega)
theorem nodsQ_L {m V : xM} {s c L : Int} (E : xEf m 310 V) (W : xWE V) (A : ∀ h : Nat, (h : Int) < V 0 1 → m (310 + 15) h = xcm V h ∧ m (310 + 16) h = xgn V (h + 1)) (s0 : 0 ≤ s) (s1 : s < 4) (hL : m (310 + 2) s = L) (L60 : L ≤ 60) {T : Int → Int} (hT : ∀ i : Int, 0 ≤ i → i < L → m (310 + 3) (60 * s + i) = T i) (ok : ∀ k : Nat, 3 * (k : Int) < L → (0 ≤ T (3 * (k : Int)) ∧ T (3 * (k : Int)) < V 0 1) ∧ (0 ≤ T (3 * (k : Int) + 1) ∧ T (3 * (k : Int) + 1) < V 0 0) ∧ (0 ≤ T (3 * (k : Int) + 2) ∧ T (3 * (k : Int) + 2) < 2)) : ∀ (n g j : Nat) (a : Int), n < g → 3 * (j : Int) + 3 * n = L → 0 ≤ a → a ≤ j → fQ_forgedOf_L5 g 310 s c a (3 * (j : Int)) m = some (xsm (xfc V T c) n j a)
  | _, 0, _, _, hg, _, _, _ => absurd hg (Nat.not_lt_zero _)
  | 0, g + 1, j, a, _, hj, _, _ => by
    unfold fQ_forgedOf_L5 xsm
    rw [xA_p (by omega), hL, if_neg (by omega)]
  | n + 1, g + 1, j, a, hg, hj, a0, a1 => by
    have hN := W.1.1
    have hH := W.1.2.1
    obtain ⟨o1, o2, o3⟩ := ok j (by omega)
    have t1 := hT (3 * (j : Int) + 1) (by omega) (by omega)
    have t2 := hT (3 * (j : Int) + 2) (by omega) (by omega)
    rw [← Int.add_assoc] at t1 t2
    have IH := fun b : Int => nodsQ_L (c := c) E W A s0 s1 hL L60 hT ok n g (j + 1) b (by omega) (by omega)
    rw [show 3 * ((j + 1 : Nat) : Int) = 3 * (j : Int) + 3 by omega] at IH
    have gA := ahead_Q A hH.2 (T (3 * (j : Int))).toNat (by omega)
    rw [show (((T (3 * (j : Int))).toNat : Nat) : Int) = T (3 * (j : Int)) by omega] at gA
    have rs := reason_s E W.1 (c := T (3 * (j : Int) + 1)) (s := T (3 * (j : Int) + 2)) (h := T (3 * (j : Int))) o2.1 o2.2 (by omega) o1.1 o1.2
    have key : ∀ R : Option Int, (xfj V T j = true → xB (some (0 : Int)) (fun _ => R) = R) := fun R _ => rfl
    have one : (c = -1 ∨ T (3 * (j : Int) + 1) = c) → xB (some (xgn V (T (3 * (j : Int))).toNat)) (fun v1 => if (fQ_isBit v1 (T (3 * (j : Int) + 1)) m) = 0 then (fQ_forgedOf_L89 (fQ_forgedOf_L5 g) 310 s c a (3 * (j : Int)) (60 * s + 3 * (j : Int)) (T (3 * (j : Int))) (T (3 * (j : Int) + 1)) 0 m) else (xB (fQ_isLoyal 310 (T (3 * (j : Int) + 1)) m) (fun v4 => if v4 = 0 then (fQ_forgedOf_L89 (fQ_forgedOf_L5 g) 310 s c a (3 * (j : Int)) (60 * s + 3 * (j : Int)) (T (3 * (j : Int))) (T (3 * (j : Int) + 1)) 1 m) else (fQ_forgedOf_L89 (fQ_forgedOf_L5 g) 310 s c a (3 * (j : Int)) (60 * s + 3 * (j : Int)) (T (3 * (j : Int))) (T (3 * (j : Int) + 1)) 0 m)))) = some (xsm (xfc V T c) n (j + 1) (a + xfc V T c j)) := by
      intro hc
      have w0 := @xwy_0 V (T (3 * (j : Int) + 1)) (T (3 * (j : Int) + 2)) (T (3 * (j : Int))) (xgn V (T (3 * (j : Int))).toNat)
      have yes : (xwy V (T (3 * (j : Int) + 1)) (T (3 * (j : Int) + 2)) (T (3 * (j : Int))) (xgn V (T (3 * (j : Int))).toNat) ≠ 0) → xfc V T c j = 1 := fun y => if_pos ⟨hc, decide_eq_true y⟩
      have no : ¬ (xwy V (T (3 * (j : Int) + 1)) (T (3 * (j : Int) + 2)) (T (3 * (j : Int))) (xgn V (T (3 * (j : Int))).toNat) ≠ 0) → xfc V T c j = 0 := fun y => if_neg (fun z => y (of_decide_eq_true z.2))
      have plain : ¬ (xbt (xgn V (T (3 * (j : Int))).toNat) (T (3 * (j : Int) + 1)) = true ∧ xLy V (T (3 * (j : Int) + 1)) = false) → fQ_forgedOf_L89 (fQ_forgedOf_L5 g) 310 s c a (3 * (j : Int)) (60 * s + 3 * (j : Int)) (T (3 * (j : Int))) (T (3 * (j : Int) + 1)) 0 m = some (xsm (xfc V T c) n (j + 1) (a + xfc V T c j)) := by
        intro hb
        unfold fQ_forgedOf_L89
        rw [if_pos rfl, xw32_id (x := 60 * s + 3 * (j : Int) + 2) (by omega) (by omega), xA_p (by omega), t2, xw32_id (x := T (3 * (j : Int) + 2)) (by omega) (by omega), rs, xB_s, xw32_id (x := a + 0) (by omega) (by omega), xw32_id (x := a + 1) (by omega) (by omega), xw32_id (x := 3 * (j : Int) + 3) (by omega) (by omega)]
        by_cases z : xwo V (T (3 * (j : Int) + 1)) (T (3 * (j : Int) + 2)) (T (3 * (j : Int))) = 0
        · rw [if_pos z, no (fun y => by rcases w0.mp y with y | y; exact hb y; exact y z)]
          exact IH (a + 0) (by omega) (by omega)
        · rw [if_neg z, yes (w0.mpr (Or.inr z))]
          exact IH (a + 1) (by omega) (by omega)
      rw [xB_s, fQ_isBit_s _ m o2.1 (by omega), loyal_s E W.1 o2.1 o2.2, xB_s]
      by_cases b : xbt (xgn V (T (3 * (j : Int))).toNat) (T (3 * (j : Int) + 1)) = true
      · rw [if_neg (by rw [if_pos b]; decide)]
        cases l : xLy V (T (3 * (j : Int) + 1))
        · rw [if_pos (show (if false = true then (1 : Int) else 0) = 0 from rfl), yes (w0.mpr (Or.inl ⟨b, l⟩))]
          unfold fQ_forgedOf_L89
          rw [if_neg (by decide), xw32_id (x := a + 1) (by omega) (by omega), xw32_id (x := 3 * (j : Int) + 3) (by omega) (by omega)]
          exact IH (a + 1) (by omega) (by omega)
        · rw [if_neg (show ¬ (if true = true then (1 : Int) else 0) = 0 by decide)]
          exact plain (fun y => by rw [l] at y; exact absurd y.2 (by decide))
      · rw [if_pos (by rw [if_neg b])]
        exact plain (fun y => b y.1)
    rw [fQ_forgedOf_L5, xsm]
    rw [xA_p (by omega), hL, if_pos (by omega), xw32_id (x := 60 * s) (by omega) (by omega), xw32_id (x := 60 * s + 3 * (j : Int)) (by omega) (by omega), xA_p (by omega), xw32_id (x := 60 * s + 3 * (j : Int) + 1) (by omega) (by omega), xA_p (by omega), hT _ (by omega) (by omega), t1, xw32_id (x := T (3 * (j : Int))) (by omega) (by omega), xw32_id (x := T (3 * (j : Int) + 1)) (by omega) (by omega), gA, xw32_id (x := 3 * (j : Int) + 3) (by omega) (by omega)]
    by_cases e : c = -1
    · rw [if_pos e]
      exact one (Or.inl e)
    · rw [if_neg e]
      by_cases f : T (3 * (j : Int) + 1) = c
      · rw [if_pos f]
        exact one (Or.inr f)
      · rw [if_neg f, show xfc V T c j = 0 from if_neg (fun y => by rcases y.1 with y | y; exact e y; exact f y), Int.add_zero]
        exact IH a a0 (by omega)
end
