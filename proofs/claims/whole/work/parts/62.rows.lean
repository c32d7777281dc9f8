/-! calls that change what is held: row, write, paste -/
noncomputable section
def xC3 (d : Option (Int × xM)) (q : xM → Option (Int × xM)) (M : xM) : Prop := ∃ (r : Int) (m1 m2 : xM), d = some (r, m1) ∧ m1 0 = M 0 ∧ q m1 = some (r, m2) ∧ m2 0 = M 0 ∧ Sim m2
def xSl (M : xM) (s : Int) : Prop := (M (302 + 2 * s) 0 = 0 ∧ M 311 s = -1) ∨ (M (302 + 2 * s) 0 = 1 ∧ M (302 + 2 * s) 1 = M 311 s ∧ (0 ≤ M 311 s ∧ M 311 s ≤ 3) ∧ M (302 + 2 * s) 2 = M 312 s ∧ (0 ≤ M 312 s ∧ M 312 s ≤ 60) ∧ ∀ i : Int, 0 ≤ i → i < M 312 s → M (303 + 2 * s) i = M 313 (60 * s + i))
theorem Sim_sl {M : xM} (S : Sim M) {s : Int} (a : 0 ≤ s) (b : s < 4) : xSl M s := S.2.2.2.2.1 s a b
theorem Sim_5 {M m : xM} (S : Sim M) (k : ∀ a : Int, xPer a → ¬ (302 ≤ a ∧ a ≤ 313) → m a = M a) (k6 : m 310 6 = M 310 6) (k14 : m 310 14 = M 310 14) (k15 : m 310 15 = M 310 15) (h : ∀ s : Int, 0 ≤ s → s < 4 → xSl m s) : Sim m := by
  let n : xM := fun a => if 302 ≤ a ∧ a ≤ 309 ∨ 311 ≤ a ∧ a ≤ 313 then M a else m a
  have nk : xKp M n := by
    refine ⟨fun a ha => ?_, k6, k14, k15⟩
    show (if 302 ≤ a ∧ a ≤ 309 ∨ 311 ≤ a ∧ a ≤ 313 then M a else m a) = M a
    split
    · rfl
    · next x => exact k a ha (by unfold xPer at ha; omega)
  have T := Sim_kp S nk
  have e : ∀ a : Int, xPer a → ¬ (302 ≤ a ∧ a ≤ 313) → m a = n a := fun a ha hb => (k a ha hb).trans (nk.1 a ha).symm
  obtain ⟨t1, t2, t3, t4, -, t6⟩ := T
  have v16 : ∀ a i : Int, 0 ≤ a → a ≤ 10 → xVw m 16 a i = xVw n 16 a i := fun a i a0 a1 => by unfold xVw; rw [e _ (by unfold xPer; omega) (by omega)]
  have q : ∀ w U, xQ0 n 310 w U → xQ0 m 310 w U := fun w U hU => ⟨xQd_go hU.1 (fun a a0 a1 => e a (by unfold xPer; omega) (by omega)), by rw [e (310 + 7) (by unfold xPer; omega) (by omega)]; exact hU.2⟩
  refine ⟨?_, ?_, ⟨xWE_go t3.1 v16, xQ0_V (q _ _ t3.2) v16⟩, fun j j0 j1 => ?_, h, fun hp => ?_⟩
  · rw [e 3 (by unfold xPer; omega) (by omega), e 4 (by unfold xPer; omega) (by omega), e 315 (by unfold xPer; omega) (by omega)]; exact t1
  · rw [e 2 (by unfold xPer; omega) (by omega), e 13 (by unfold xPer; omega) (by omega)]; exact t2
  · rw [e 267 (by unfold xPer; omega) (by omega), e 322 (by unfold xPer; omega) (by omega)]
    have vk : ∀ a i : Int, 0 ≤ a → a ≤ 10 → xVw m (269 + 11 * j) a i = xVw n (269 + 11 * j) a i := fun a i a0 a1 => by unfold xVw; rw [e _ (by unfold xPer; omega) (by omega)]
    rcases t4 j j0 j1 with x | ⟨x, y, z, u⟩
    · exact Or.inl x
    · exact Or.inr ⟨x, y, xWE_go z vk, xQ0_V (q _ _ u) vk⟩
  · rw [e 16 (by unfold xPer; omega) (by omega)] at hp
    obtain ⟨x, y⟩ := t6 hp
    refine ⟨xLook_V (xLook_go t3.1.1 x (fun a a0 a1 a2 => e a (by unfold xPer; omega) (by omega))) v16, xCs_V ?_ v16⟩
    unfold xCs at y ⊢
    rw [e (256 + 1) (by unfold xPer; omega) (by omega), e (256 + 2) (by unfold xPer; omega) (by omega)]
    exact y
theorem xC3_k {M : xM} (S : Sim M) {r : Int} {q : xM → Option (Int × xM)} {m : xM} (hq : q M = some (r, m)) (k : xKp M m) : xC3 (some (r, M)) q M := ⟨r, M, m, rfl, rfl, hq, k.1 0 (by unfold xPer; omega), Sim_kp S k⟩
theorem row_L {s n : Int} (s0 : 0 ≤ s) (s1 : s < 4) (n1 : n ≤ 60) : ∀ (k g i : Nat) (m : xM), k < g → (i : Int) + k = n → xP (fQ_row_L57 g 310 s n (i : Int) m) (fun x => x.1 = 0 ∧ xF 313 313 m x.2 ∧ ∀ j : Int, x.2 313 j = if 60 * s + (i : Int) ≤ j ∧ j < 60 * s + n then 0 else m 313 j)
  | _, 0, _, _, hg, _ => absurd hg (Nat.not_lt_zero _)
  | 0, g + 1, i, m, _, hi => by
    unfold fQ_row_L57
    rw [if_neg (by omega)]
    exact xP_some ⟨rfl, xF_rfl _ _ _, fun j => by rw [if_neg (by omega)]⟩
  | k + 1, g + 1, i, m, hg, hi => by
    unfold fQ_row_L57
    rw [if_pos (by omega), xw32_id (x := 60 * s) (by omega) (by omega), xw32_id (x := 60 * s + (i : Int)) (by omega) (by omega), xA_p (by omega), xw32_id (x := (i : Int) + 1) (by omega) (by omega)]
    refine xP_mono (row_L s0 s1 n1 k g (i + 1) _ (by omega) (by omega)) ?_
    rintro ⟨r, m'⟩ ⟨hr, hF, hm⟩
    refine ⟨hr, xF_tr (xwr_F (xF_rfl _ _ _) (by omega) (by omega)) hF, fun j => ?_⟩
    show m' 313 j = _
    rw [show m' 313 j = _ from hm j, xwr_at]
    (repeat' split) <;> first | rfl | (exfalso; omega)
theorem call_63 {M : xM} (S : Sim M) (s kd n : Int) : xC3 (fD_row 1 s kd n M) (fQ_row 310 s kd n) M := by
  have K : xKp M (xwr M 310 0 0) := xKp_w (xKp_rfl M) (by decide) (by decide) (by decide)
  unfold fD_row
  rw [isSlot_s]
  simp only [if10]
  by_cases h1 : 0 ≤ s ∧ s ≤ 3
  · rw [if_neg (not_not_intro h1)]
    by_cases h2 : 0 ≤ kd ∧ kd ≤ 3
    · rw [if_neg (show ¬ kd < 0 by omega), if_pos (show kd < 4 by omega)]
      by_cases h3 : 60 < n
      · rw [if_pos h3]
        refine xC3_k S ?_ K
        unfold fQ_row
        rw [qSlot_s, fQ_in_s]
        simp only [if10]
        rw [if_neg (not_not_intro h1), if_neg (not_not_intro h2), if_pos h3]
      · rw [if_neg h3]
        by_cases h4 : n < 0
        · rw [if_pos h4]
          refine xC3_k S ?_ K
          unfold fQ_row
          rw [qSlot_s, fQ_in_s]
          simp only [if10]
          rw [if_neg (not_not_intro h1), if_neg (not_not_intro h2), if_neg h3, if_pos h4]
        · rw [if_neg h4, xA_p (by omega)]
          unfold fSlot_lay
          obtain ⟨m1, e1, f1, g1⟩ := fill_k28_s (1 + 267 + 34 + 2 * s + 1) 0 (xwr (xwr (xwr M (1 + 267 + 34 + 2 * s) 0 1) (1 + 267 + 34 + 2 * s) 1 kd) (1 + 267 + 34 + 2 * s) 2 n)
          obtain ⟨⟨r, m2⟩, e2, er, f2, g2⟩ := row_L (s := s) (n := n) h1.1 (by omega) (by omega) n.toNat 20001 0 (xwr (xwr (xwr m1 310 0 0) 311 s kd) 312 s n) (by omega) (by omega)
          have er : r = 0 := er
          subst er
          have f2 : ∀ a : Int, a ≠ 313 → m2 a = (xwr (xwr (xwr m1 310 0 0) 311 s kd) 312 s n) a := fun a ha => f2 a (by omega)
          have p1 : ∀ a : Int, a ≠ 302 + 2 * s → a ≠ 303 + 2 * s → m1 a = M a := fun a a1 a2 => by
            rw [f1 a (by omega), xwr_a _ (by omega), xwr_a _ (by omega), xwr_a _ (by omega)]
          have p2 : ∀ a : Int, a ≠ 310 → a ≠ 311 → a ≠ 312 → a ≠ 313 → m2 a = m1 a := fun a a1 a2 a3 a4 => by
            rw [f2 a a4, xwr_a _ a3, xwr_a _ a2, xwr_a _ a1]
          have p3 : ∀ i : Int, i ≠ 0 → m2 310 i = M 310 i := fun i hi => by
            rw [f2 310 (by omega), xwr_n _ (by omega), xwr_n _ (by omega), xwr_n _ (by omega), p1 310 (by omega) (by omega)]
          have y : ∀ i : Int, m1 (302 + 2 * s) i = if i = 2 then n else if i = 1 then kd else if i = 0 then 1 else M (302 + 2 * s) i := fun i => by
            rw [f1 (302 + 2 * s) (by omega), xwr_at, xwr_at, xwr_at]
            (repeat' split) <;> first | rfl | (exfalso; omega)
          refine ⟨0, m1, m2, by rw [e1]; rfl, p1 0 (by omega) (by omega), ?_, (p2 0 (by omega) (by omega) (by omega) (by omega)).trans (p1 0 (by omega) (by omega)), ?_⟩
          · unfold fQ_row
            rw [qSlot_s, fQ_in_s]
            simp only [if10]
            rw [if_neg (not_not_intro h1), if_neg (not_not_intro h2), if_neg h3, if_neg h4, xA_p (by omega), xA_p (by omega)]
            exact e2
          · refine Sim_5 S (fun a ha hb => ?_) (p3 6 (by decide)) (p3 14 (by decide)) (p3 15 (by decide)) (fun t t0 t1 => ?_)
            · rw [p2 a (by omega) (by omega) (by omega) (by omega), p1 a (by omega) (by omega)]
            · have w1 : m2 311 t = if t = s then kd else M 311 t := by
                rw [f2 311 (by omega), xwr_n _ (by omega), xwr_at, xwr_n _ (by omega), p1 311 (by omega) (by omega)]
                (repeat' split) <;> first | rfl | (exfalso; omega)
              have w2 : m2 312 t = if t = s then n else M 312 t := by
                rw [f2 312 (by omega), xwr_at, xwr_n _ (by omega), xwr_n _ (by omega), p1 312 (by omega) (by omega)]
                (repeat' split) <;> first | rfl | (exfalso; omega)
              have w3 : ∀ j : Int, m2 313 j = if 60 * s ≤ j ∧ j < 60 * s + n then 0 else M 313 j := fun j => by
                rw [show m2 313 j = _ from g2 j, xwr_n _ (by omega), xwr_n _ (by omega), xwr_n _ (by omega), p1 313 (by omega) (by omega)]
                (repeat' split) <;> first | rfl | (exfalso; omega)
              by_cases e : t = s
              · subst e
                rw [if_pos rfl] at w1 w2
                refine Or.inr ⟨?_, ?_, by rw [w1]; exact h2, ?_, by rw [w2]; omega, fun i i0 i1 => ?_⟩
                · rw [p2 _ (by omega) (by omega) (by omega) (by omega), y]; rfl
                · rw [p2 _ (by omega) (by omega) (by omega) (by omega), y, w1]; rfl
                · rw [p2 _ (by omega) (by omega) (by omega) (by omega), y, w2]; rfl
                · rw [w2] at i1
                  rw [w3, if_pos (by omega), p2 _ (by omega) (by omega) (by omega) (by omega), show 303 + 2 * t = 1 + 267 + 34 + 2 * t + 1 by omega, g1 i, if_pos (by omega)]
              · rw [if_neg e] at w1 w2
                have x3 : ∀ i : Int, 0 ≤ i → i < 60 → m2 313 (60 * t + i) = M 313 (60 * t + i) := fun i i0 i1 => by rw [w3, if_neg (by omega)]
                have x4 : m2 (302 + 2 * t) = M (302 + 2 * t) := by rw [p2 _ (by omega) (by omega) (by omega) (by omega), p1 _ (by omega) (by omega)]
                have x5 : m2 (303 + 2 * t) = M (303 + 2 * t) := by rw [p2 _ (by omega) (by omega) (by omega) (by omega), p1 _ (by omega) (by omega)]
                have T := Sim_sl S t0 t1
                unfold xSl at T ⊢
                rw [w1, w2, x4, x5]
                rcases T with T | ⟨a, b, c, d, u, v⟩
                · exact Or.inl T
                · exact Or.inr ⟨a, b, c, d, u, fun i i0 i1 => by rw [x3 i i0 (by omega)]; exact v i i0 i1⟩
    · have d : (if kd < 0 then some ((-2 : Int), M) else if kd < 4 then (if 60 < n then some (-2, M) else if n < 0 then some (-3, M) else xA (0 ≤ s ∧ s < 4) (xB (fSlot_lay ((1 + 267) + 34 + 2 * s) kd n M) (fun m2 => some (0, m2)))) else some (-2, M)) = some (-2, M) := by
        by_cases a : kd < 0
        · rw [if_pos a]
        · rw [if_neg a, if_neg (by omega)]
      rw [d]
      refine xC3_k S ?_ K
      unfold fQ_row
      rw [qSlot_s, fQ_in_s]
      simp only [if10]
      rw [if_neg (not_not_intro h1), if_pos h2]
  · rw [if_pos h1]
    refine xC3_k S ?_ K
    unfold fQ_row
    rw [qSlot_s]
    simp only [if10]
    rw [if_pos h1]
end
