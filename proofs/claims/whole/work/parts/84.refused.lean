/-! weighing a tale: the reference's side -/
noncomputable section
def xQs (ok : Nat → Bool) (m : xM) (i : Nat) : Prop := m 310 42 = (xrs ok i).1 ∧ m 310 43 = (xrs ok i).2.1 ∧ m 310 44 = (xrs ok i).2.2.1 ∧ m 310 45 = (xrs ok i).2.2.2
theorem xrs_rg (ok : Nat → Bool) : ∀ i : Nat, (0 ≤ (xrs ok i).1 ∧ (xrs ok i).1 ≤ i) ∧ (-1 ≤ (xrs ok i).2.1 ∧ (xrs ok i).2.1 < i + 1)
  | 0 => by unfold xrs; decide
  | i + 1 => by
    have ih := xrs_rg ok i
    unfold xrs
    by_cases h : ok i = true
    · rw [if_pos h]
      refine ⟨⟨by show 0 ≤ _ + 1; omega, by show _ + 1 ≤ _; omega⟩, ?_⟩
      show -1 ≤ (if _ then _ else _ : Int) ∧ (if _ then _ else _ : Int) < _
      split <;> omega
    · rw [if_neg h]; omega
theorem refQ_L {M V : xM} {s : Int} (W : xWE V) (hp : 2 ≤ V 0 0) (s0 : 0 ≤ s) (s1 : s < 4) {n : Nat} (e : M 312 s = 3 * (n : Int)) (n20 : n ≤ 20) (tl : xtl (xRt M s) (V 0 1) (V 0 0) n 0 = true) : ∀ (k g i : Nat) (m : xM), k < g → (i : Int) + k = 2 ^ (V 0 0).toNat → xKp M m → xQ0 m 310 0 V → xQs (fun R => decide (xun V (R : Int) (xRt M s) n 0 0 = -1)) m i → xP (fQ_refusals_L24 g 310 s (i : Int) m) (fun m' => xKp M m' ∧ xQ0 m' 310 0 V ∧ xQs (fun R => decide (xun V (R : Int) (xRt M s) n 0 0 = -1)) m' ((2 : Int) ^ (V 0 0).toNat).toNat)
  | _, 0, _, _, hg, _, _, _, _ => absurd hg (Nat.not_lt_zero _)
  | 0, g + 1, i, m, _, hi, hk, hQ, hS => by
    have hN := W.1.1
    have h0 : m (310 + 7) 0 = V 0 0 := hQ.1.1.2.1
    unfold fQ_refusals_L24
    rw [h0, (xshl1_pw hN.1 (by omega)).1, if_neg (by omega)]
    exact xP_some ⟨hk, hQ, by rw [show ((2 : Int) ^ (V 0 0).toNat).toNat = i by omega]; exact hS⟩
  | k + 1, g + 1, i, m, hg, hi, hk, hQ, hS => by
    have hN := W.1.1
    have pw := pw_9 hN.1 hN.2
    have h0 : m (310 + 7) 0 = V 0 0 := hQ.1.1.2.1
    have rg := xrs_rg (fun R => decide (xun V (R : Int) (xRt M s) n 0 0 = -1)) i
    unfold fQ_refusals_L24
    rw [h0, (xshl1_pw hN.1 (by omega)).1, if_pos (by omega), xw32_id (x := (i : Int) + 1) (by omega) (by omega)]
    refine xP_B (oddBy_s (M := M) (R := (i : Int)) hQ W hp s0 s1 (hk.1 312 (by unfold xPer; omega)) (hk.1 313 (by unfold xPer; omega)) e n20 tl) ?_
    rintro ⟨v, m1⟩ ⟨ev, k1, f1⟩
    have ev : v = xun V (i : Int) (xRt M s) n 0 0 := ev
    have k1 : xKp m m1 := k1
    have f1 : ∀ i : Int, i < 23 ∨ 35 < i → m1 310 i = m 310 i := f1
    obtain ⟨q1, q2, q3, q4⟩ := hS
    have g1 := (f1 42 (by omega)).trans q1
    have g2 := (f1 43 (by omega)).trans q2
    have g3 := (f1 44 (by omega)).trans q3
    have g4 := (f1 45 (by omega)).trans q4
    show xP (if v = -1 then _ else _) _
    by_cases u : v = -1
    · have ok : (fun R : Nat => decide (xun V (R : Int) (xRt M s) n 0 0 = -1)) i = true := decide_eq_true (by rw [← ev]; exact u)
      have st : xrs (fun R => decide (xun V (R : Int) (xRt M s) n 0 0 = -1)) (i + 1) = _ := if_pos ok
      rw [if_pos u]
      obtain ⟨A, hA⟩ : ∃ A : xM, A = xwr (xwr (xwr m1 310 42 (xw32 (m1 310 42 + 1))) 310 44 (xand ((xwr m1 310 42 (xw32 (m1 310 42 + 1))) 310 44) (i : Int))) 310 45 (xor32 ((xwr (xwr m1 310 42 (xw32 (m1 310 42 + 1))) 310 44 (xand ((xwr m1 310 42 (xw32 (m1 310 42 + 1))) 310 44) (i : Int))) 310 45) (i : Int)) := ⟨_, rfl⟩
      have kA : xKp M A := by
        rw [hA]
        exact xKp_w (xKp_w (xKp_w (xKp_tr hk k1) (by decide) (by decide) (by decide)) (by decide) (by decide) (by decide)) (by decide) (by decide) (by decide)
      have A1 : A 310 42 = (xrs (fun R => decide (xun V (R : Int) (xRt M s) n 0 0 = -1)) i).1 + 1 := by
        rw [hA, xwr_n _ (by decide), xwr_n _ (by decide), xwr_s, g1, xw32_id (by omega) (by omega)]
      have A2 : A 310 43 = (xrs (fun R => decide (xun V (R : Int) (xRt M s) n 0 0 = -1)) i).2.1 := by
        rw [hA, xwr_n _ (by decide), xwr_n _ (by decide), xwr_n _ (by decide), g2]
      have A3 : A 310 44 = xand (xrs (fun R => decide (xun V (R : Int) (xRt M s) n 0 0 = -1)) i).2.2.1 (i : Int) := by
        rw [hA, xwr_n _ (by decide), xwr_s, xwr_n _ (by decide), g3]
      have A4 : A 310 45 = xor32 (xrs (fun R => decide (xun V (R : Int) (xRt M s) n 0 0 = -1)) i).2.2.2 (i : Int) := by
        rw [hA, xwr_s, xwr_n _ (by decide), xwr_n _ (by decide), g4]
      rw [← hA, A2]
      have go : ∀ y : Int, y = (if (xrs (fun R => decide (xun V (R : Int) (xRt M s) n 0 0 = -1)) i).2.1 = -1 ∨ xpc (i : Int) < xpc (xrs (fun R => decide (xun V (R : Int) (xRt M s) n 0 0 = -1)) i).2.1 then (i : Int) else (xrs (fun R => decide (xun V (R : Int) (xRt M s) n 0 0 = -1)) i).2.1) → xQs (fun R => decide (xun V (R : Int) (xRt M s) n 0 0 = -1)) (xwr A 310 43 y) (i + 1) := fun y hy => by
        unfold xQs
        rw [st]
        refine ⟨?_, ?_, ?_, ?_⟩
        · rw [xwr_n _ (by decide), A1]
        · rw [xwr_s, hy]
        · rw [xwr_n _ (by decide), A3]
        · rw [xwr_n _ (by decide), A4]
      have kW : ∀ y : Int, xKp M (xwr A 310 43 y) := fun y => xKp_w kA (by decide) (by decide) (by decide)
      have QW : ∀ m' : xM, xKp M m' → xQ0 m' 310 0 V := fun m' h => xQ0_kp hQ ⟨fun a ha => (h.1 a ha).trans (hk.1 a ha).symm, h.2.1.trans hk.2.1.symm, h.2.2.1.trans hk.2.2.1.symm, h.2.2.2.trans hk.2.2.2.symm⟩
      by_cases z : (xrs (fun R => decide (xun V (R : Int) (xRt M s) n 0 0 = -1)) i).2.1 = -1
      · rw [if_pos z]
        exact refQ_L W hp s0 s1 e n20 tl k g (i + 1) _ (by omega) (by omega) (kW _) (QW _ (kW _)) (go _ (by rw [if_pos (Or.inl z)]))
      · rw [if_neg z, sizeOf_s A (by omega) (by omega), xB_s, sizeOf_s A (by omega) (by omega), xB_s]
        by_cases y : xpc (i : Int) < xpc (xrs (fun R => decide (xun V (R : Int) (xRt M s) n 0 0 = -1)) i).2.1
        · rw [if_pos y]
          exact refQ_L W hp s0 s1 e n20 tl k g (i + 1) _ (by omega) (by omega) (kW _) (QW _ (kW _)) (go _ (by rw [if_pos (Or.inr y)]))
        · rw [if_neg y]
          refine refQ_L W hp s0 s1 e n20 tl k g (i + 1) _ (by omega) (by omega) kA (QW _ kA) ?_
          have := go (A 310 43) (by rw [A2, if_neg (fun x => by rcases x with x | x; exact z x; exact y x)])
          rwa [xwr_self] at this
    · have ok : ¬ (fun R : Nat => decide (xun V (R : Int) (xRt M s) n 0 0 = -1)) i = true := fun y => u (by rw [ev]; exact of_decide_eq_true y)
      have st : xrs (fun R => decide (xun V (R : Int) (xRt M s) n 0 0 = -1)) (i + 1) = xrs (fun R => decide (xun V (R : Int) (xRt M s) n 0 0 = -1)) i := if_neg ok
      rw [if_neg u]
      refine refQ_L W hp s0 s1 e n20 tl k g (i + 1) m1 (by omega) (by omega) (xKp_tr hk k1) (xQ0_kp hQ k1) ?_
      unfold xQs
      rw [st]
      exact ⟨g1, g2, g3, g4⟩
end
