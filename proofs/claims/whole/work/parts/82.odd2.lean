/-! odd -/
noncomputable section
theorem xEf_29 {m V : xM} {R : Int} (Q : xQ0 m 310 0 V) (W : xWE V) (hp : 2 ≤ V 0 0) (P : xPl m 310) : xEf (xwr m 310 29 R) 310 V := by
  obtain ⟨p1, p2, p3, p4, p5, p6, p7, p8, p9⟩ := P
  have f : ∀ i : Int, i ≠ 29 → (xwr m 310 29 R) 310 i = m 310 i := fun i hi => xwr_n _ (fun x => hi x.2)
  have Q' : xQd (xwr m 310 29 R) 310 0 V := xQd_go Q.1 (fun a a0 a1 => xwr_a _ (by omega))
  refine xEf_mk Q' W hp (by rw [xwr_a _ (by decide)]; exact Q.2) W.1.2.2.1 rfl rfl (fun c h _ _ _ _ => ?_) (fun c _ _ => ?_) (fun b _ _ => ?_) (fun k _ _ => ⟨rfl, rfl, rfl⟩) (Or.inl ⟨by rw [f 30 (by decide)]; exact p8, rfl⟩)
  · rw [f 23 (by decide), f 35 (by decide), p1, p9]; simp
  · rw [f 25 (by decide), f 26 (by decide), f 27 (by decide), f 28 (by decide), p3, p4, p5, p6, xbt_0]; simp
  · rw [f 24 (by decide), p2]; simp
theorem untrueQ_L {m V : xM} {s R L : Int} (W : xWF V) (E : xEf m 310 V) (D : xWd m 310 V (fun d => xbt R d)) (s0 : 0 ≤ s) (s1 : s < 4) (hL : m (310 + 2) s = L) (L60 : L ≤ 60) {T : Int → Int} (hT : ∀ i : Int, 0 ≤ i → i < L → m (310 + 3) (60 * s + i) = T i) (ok : ∀ k : Nat, 3 * (k : Int) < L → (0 ≤ T (3 * (k : Int)) ∧ T (3 * (k : Int)) < V 0 1) ∧ (0 ≤ T (3 * (k : Int) + 1) ∧ T (3 * (k : Int) + 1) < V 0 0) ∧ (0 ≤ T (3 * (k : Int) + 2) ∧ T (3 * (k : Int) + 2) < 2)) : ∀ (n g j : Nat) (o : Int), n < g → 3 * (j : Int) + 3 * n = L → fQ_oddBy_L18 g 310 s o (j : Int) m = some (xun V R T n j o, m)
  | _, 0, _, _, hg, _ => absurd hg (Nat.not_lt_zero _)
  | 0, g + 1, j, o, _, hj => by
    unfold fQ_oddBy_L18 xun
    rw [xA_p (by omega), hL, xw32_id (by omega) (by omega), if_neg (by omega)]
  | n + 1, g + 1, j, o, hg, hj => by
    have hN := W.1
    have hH := W.2.1
    obtain ⟨q1, q2, q3⟩ := ok j (by omega)
    have t1 := hT (3 * (j : Int) + 1) (by omega) (by omega)
    have t2 := hT (3 * (j : Int) + 2) (by omega) (by omega)
    rw [← Int.add_assoc] at t1 t2
    have IH := fun b : Int => untrueQ_L (R := R) W E D s0 s1 hL L60 hT ok n g (j + 1) b (by omega) (by omega)
    rw [show ((j + 1 : Nat) : Int) = (j : Int) + 1 from rfl] at IH
    rw [fQ_oddBy_L18, xun]
    rw [xA_p (by omega), hL, xw32_id (x := 3 * (j : Int)) (by omega) (by omega), if_pos (by omega), xw32_id (x := 60 * s) (by omega) (by omega), xw32_id (x := 60 * s + 3 * (j : Int)) (by omega) (by omega), xw32_id (x := 60 * s + 3 * (j : Int) + 1) (by omega) (by omega), xA_p (by omega), xA_p (by omega), hT _ (by omega) (by omega), t1, xw32_id (x := T (3 * (j : Int))) (by omega) (by omega), xw32_id (x := T (3 * (j : Int) + 1)) (by omega) (by omega), opensIf_s E D W q2.1 q2.2 q1.1 q1.2, xB_s, xw32_id (x := 60 * s + 3 * (j : Int) + 2) (by omega) (by omega), xA_p (by omega), t2, xw32_id (x := (j : Int) + 1) (by omega) (by omega)]
    have cm : ∀ b : Bool, ((if b = true then (1 : Int) else 0) = (if xcmpL (T (3 * (j : Int) + 2)) 1 = 0 then 1 else 0)) ↔ b = decide (T (3 * (j : Int) + 2) = 1) := fun b => by
      by_cases e : T (3 * (j : Int) + 2) = 1
      · rw [if_pos ((xcmp_0 _ _).mpr e), decide_eq_true e]
        cases b <;> decide
      · rw [if_neg (fun y => e ((xcmp_0 _ _).mp y)), decide_eq_false e]
        cases b <;> decide
    cases b : xopR V (fun d => xbt R d) (T (3 * (j : Int) + 1)) (T (3 * (j : Int))) o
    · have c1 := cm false
      rw [if_neg (show ¬ false = true by decide)] at c1 ⊢
      rw [if_neg (show ¬ false = true by decide)]
      by_cases e : false = decide (T (3 * (j : Int) + 2) = 1)
      · rw [if_pos (c1.mpr e), if_pos e, if_pos (show (0 : Int) = 0 from rfl)]
        exact IH o
      · rw [if_neg (fun y => e (c1.mp y)), if_neg e]
    · have c1 := cm true
      rw [if_pos (show true = true from rfl)] at c1 ⊢
      rw [if_pos (show true = true from rfl)]
      by_cases e : true = decide (T (3 * (j : Int) + 2) = 1)
      · rw [if_pos (c1.mpr e), if_pos e, if_neg (show ¬ (1 : Int) = 0 by decide)]
        exact IH _
      · rw [if_neg (fun y => e (c1.mp y)), if_neg e]
theorem oddBy_s {M m V : xM} {s R : Int} (Q : xQ0 m 310 0 V) (W : xWE V) (hp : 2 ≤ V 0 0) (s0 : 0 ≤ s) (s1 : s < 4) (h2 : m (310 + 2) = M 312) (h3 : m (310 + 3) = M 313) {n : Nat} (e : M 312 s = 3 * (n : Int)) (n20 : n ≤ 20) (ok : xtl (xRt M s) (V 0 1) (V 0 0) n 0 = true) : xP (fQ_oddBy 310 s R m) (fun x => x.1 = xun V R (xRt M s) n 0 0 ∧ xKp m x.2 ∧ (∀ i : Int, i < 23 ∨ 35 < i → x.2 310 i = m 310 i)) := by
  have k := plainly_kp m
  obtain ⟨pl, pa, pi⟩ := plainly_s 310 m
  have E := xEf_29 (R := R) (xQ0_kp Q k) W hp pl
  have k2 : xKp m (xwr (fQ_plainly 310 m) 310 29 R) := xKp_w k (by decide) (by decide) (by decide)
  unfold fQ_oddBy
  refine xP_B (would_s E W.1) ?_
  rintro m2 ⟨f2, E2, D2⟩
  have D2' : xWd m2 310 V (fun d => xbt R d) := by
    have : (fun c => xbt ((xwr (fQ_plainly 310 m) 310 29 R) 310 29) c) = (fun d => xbt R d) := by rw [xwr_s]
    rw [this] at D2
    exact D2
  have g : ∀ a : Int, a ≠ 310 → a ≠ 310 + 14 → m2 a = m a := fun a a1 a2 => by rw [f2 a (by omega), xwr_a _ a1, pa a a1]
  have r := untrueQ_L (R := R) (L := M 312 s) W.1 E2 D2' s0 s1 (by rw [g _ (by decide) (by decide), h2]) (by omega) (T := xRt M s) (fun i i0 i1 => by rw [g _ (by decide) (by decide), h3]; rfl) (fun k hk => xtl_at n 0 ok k (by omega) (by omega)) n 20001 0 0 (by omega) (by omega)
  have r : fQ_oddBy_L18 20001 310 s 0 0 m2 = _ := r
  rw [r]
  refine xP_some ⟨rfl, xKp_tr k2 (xKp_F f2 (fun a a0 a1 => by unfold xPer; omega)), fun i hi => ?_⟩
  show m2 310 i = m 310 i
  rw [f2 310 (by omega), xwr_n _ (by omega), pi i hi]
theorem untrueD_s {M V : xM} {s R : Int} (W : xWF V) (hk : xKO M (1 + 37 + 1) V) {n : Nat} (e : M 312 s = 3 * (n : Int)) (n20 : n ≤ 20) (hL : M (302 + 2 * s) 2 = M 312 s) (hT : ∀ i : Int, 0 ≤ i → i < M 312 s → M (303 + 2 * s) i = xRt M s i) (ok : xtl (xRt M s) (V 0 1) (V 0 0) n 0 = true) : fInquiry_firstUntrue (1 + 264) ((1 + 37) + 1) ((1 + 267) + 34 + 2 * s) R M = some (xun V R (xRt M s) n 0 0) := by
  have hN := W.1
  have pw := pw_9 hN.1 hN.2
  unfold fInquiry_firstUntrue
  rw [show 1 + 267 + 34 + 2 * s = 302 + 2 * s by omega]
  exact untrueD_L (L := M 312 s) W hk hL (by omega) (T := xRt M s) (fun i i0 i1 => by rw [show 302 + 2 * s + 1 = 303 + 2 * s by omega]; exact hT i i0 i1) (fun k hk => xtl_at n 0 ok k (by omega) (by omega)) n 20001 0 0 (by omega) (by omega) (by decide) (by omega)
theorem call_49 {M : xM} (S : Sim M) (s : Int) : xC1 (fD_odd 1 s M) (fQ_odd 310 s M) M := by
  obtain ⟨V, hv, W, Q, K, Q0, L⟩ := opn S
  obtain ⟨r, d, q, ok⟩ := bar_s (m := xwr M 310 0 0) S hv W Q0 (xwr_a _ (by decide)) (xwr_a _ (by decide)) (xwr_a _ (by decide)) s 1
  have q : fQ_whyNot 310 s 0 (xwr M 310 0 0) = some r := q
  unfold fD_odd fQ_odd
  rw [d, q, xB_s, xB_s]
  by_cases h : r = 0
  · rw [if_pos h, if_pos h]
    obtain ⟨⟨s0, s1⟩, p2, n, e, n20, hL, hT, tl⟩ := ok h
    have dl := untrueD_s (R := 0) W.1 (L p2).1.1 e n20 hL hT tl
    obtain ⟨⟨v, m2⟩, eq, ev, k2, -⟩ := oddBy_s (M := M) (R := 0) Q0 W p2 s0 s1 (xwr_a _ (by decide)) (xwr_a _ (by decide)) e n20 tl
    have ev : v = xun V 0 (xRt M s) n 0 0 := ev
    subst ev
    rw [xA_p (by omega), dl, eq]
    exact xC1_eq rfl rfl (xKp_tr K k2)
  · rw [if_neg h, if_neg h]
    exact xC1_eq rfl rfl K
end
