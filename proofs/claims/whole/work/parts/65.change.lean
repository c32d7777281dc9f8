/-! changes of the prison that stands: temper, quarrel, vow -/
noncomputable section
/-- place v of the reference's prisons at m is place w at M -/
def xSg (M m : xM) (w v : Int) : Prop := m (310 + 6) v = M (310 + 6) w ∧ (∀ i : Int, 0 ≤ i → i < 7 → m (310 + 7) (7 * v + i) = M (310 + 7) (7 * w + i)) ∧ (∀ i : Int, 0 ≤ i → i < 54 → m (310 + 8) (54 * v + i) = M (310 + 8) (54 * w + i)) ∧ (∀ i : Int, 0 ≤ i → i < 24 → m (310 + 9) (24 * v + i) = M (310 + 9) (24 * w + i)) ∧ (∀ i : Int, 0 ≤ i → i < 32 → m (310 + 10) (32 * v + i) = M (310 + 10) (32 * w + i)) ∧ (∀ i : Int, 0 ≤ i → i < 24 → m (310 + 11) (24 * v + i) = M (310 + 11) (24 * w + i))
theorem xQ0_sg {M m U : xM} {w v : Int} (hU : xQ0 M 310 w U) (W : xWE U) (s : xSg M m w v) : xQ0 m 310 v U := by
  obtain ⟨s6, s7, s8, s9, s10, s11⟩ := s
  obtain ⟨⟨⟨a1, a2, a3, a4, a5, a6⟩, b, c, d, e, f⟩, g⟩ := hU
  have q6 := W.2.2.2.2.2.2.2.1
  have q7 := W.2.2.2.2.2.2.2.2.1
  have e0 : m (310 + 7) (7 * v) = M (310 + 7) (7 * w) := by
    have := s7 0 (by decide) (by decide)
    rwa [Int.add_zero, Int.add_zero] at this
  have k9 : ∀ k j : Int, 0 ≤ k → k < 8 → 0 ≤ j → j < 3 → m (310 + 9) (24 * v + 3 * k + j) = M (310 + 9) (24 * w + 3 * k + j) := fun k j k0 k1 j0 j1 => by
    have := s9 (3 * k + j) (by omega) (by omega)
    rwa [← Int.add_assoc, ← Int.add_assoc] at this
  have k9' : ∀ k : Int, 0 ≤ k → k < 8 → m (310 + 9) (24 * v + 3 * k) = M (310 + 9) (24 * w + 3 * k) := fun k k0 k1 => s9 (3 * k) (by omega) (by omega)
  have kn : ∀ (c : Int) (n : Nat), n ≤ 8 → xnk m (310 + 9) v c n = xnk M (310 + 9) w c n := by
    intro c n
    induction n with
    | zero => intro _; rfl
    | succ n ih => intro hn; unfold xnk; rw [ih (by omega), k9' (n : Int) (by omega) (by omega)]
  refine ⟨⟨⟨by rw [s6]; exact a1, by rw [e0]; exact a2, by rw [s7 1 (by decide) (by decide)]; exact a3, by rw [s7 4 (by decide) (by decide)]; exact a4, by rw [s7 5 (by decide) (by decide)]; exact a5, by rw [s7 6 (by decide) (by decide)]; exact a6⟩, fun x x0 x1 => ?_, fun x h x0 x1 h0 h1 => ?_, fun x x0 x1 => ?_, fun k k0 k1 => ?_, fun h h0 h1 => ?_⟩, by rw [s7 3 (by decide) (by decide)]; exact g⟩
  · have q : ∀ i : Int, 0 ≤ i → i < 6 → m (310 + 8) (54 * v + 6 * x + i) = M (310 + 8) (54 * w + 6 * x + i) := fun i i0 i1 => by
      have := s8 (6 * x + i) (by omega) (by omega)
      rwa [← Int.add_assoc, ← Int.add_assoc] at this
    rw [s8 (6 * x) (by omega) (by omega), q 1 (by decide) (by decide), q 2 (by decide) (by decide), q 3 (by decide) (by decide), q 4 (by decide) (by decide), q 5 (by decide) (by decide)]
    exact b x x0 x1
  · rw [c x h x0 x1 h0 h1]
    constructor
    · rintro ⟨k, y0, y1, y2, y3, y4⟩
      exact ⟨k, y0, y1, by rw [k9' k y0 (by omega)]; exact y2, by rw [k9 k 1 y0 (by omega) (by decide) (by decide)]; exact y3, by rw [k9 k 2 y0 (by omega) (by decide) (by decide)]; exact y4⟩
    · rintro ⟨k, y0, y1, y2, y3, y4⟩
      exact ⟨k, y0, y1, by rw [← k9' k y0 (by omega)]; exact y2, by rw [← k9 k 1 y0 (by omega) (by decide) (by decide)]; exact y3, by rw [← k9 k 2 y0 (by omega) (by decide) (by decide)]; exact y4⟩
  · rw [kn x _ (by omega)]; exact d x x0 x1
  · have q : ∀ i : Int, 0 ≤ i → i < 4 → m (310 + 10) (32 * v + 4 * k + i) = M (310 + 10) (32 * w + 4 * k + i) := fun i i0 i1 => by
      have := s10 (4 * k + i) (by omega) (by omega)
      rwa [← Int.add_assoc, ← Int.add_assoc] at this
    rw [s10 (4 * k) (by omega) (by omega), q 1 (by decide) (by decide), q 2 (by decide) (by decide), q 3 (by decide) (by decide)]
    exact e k k0 k1
  · rw [s11 h h0 h1]; exact f h h0 h1
theorem Sim_0 {M m V : xM} (S : Sim M) (k : ∀ a : Int, (0 ≤ a ∧ a ≤ 4) ∨ a = 13 ∨ (266 ≤ a ∧ a ≤ 309) ∨ (311 ≤ a ∧ a ≤ 313) ∨ a = 315 ∨ a = 322 → m a = M a) (k6 : m 310 6 = M 310 6) (k14 : m 310 14 = M 310 14) (k15 : m 310 15 = M 310 15) (e : ∀ a i : Int, 0 ≤ a → a ≤ 10 → xVw m 16 a i = V a i) (W : xWE V) (Q : xQ0 m 310 0 V) (s : ∀ w : Int, 1 ≤ w → w ≤ 3 → xSg M m w w) (L : 2 ≤ V 0 0 → xLook m 38 V ∧ xCs m 256 V) : Sim m := by
  obtain ⟨t1, t2, -, t4, t5, -⟩ := S
  refine ⟨?_, ?_, ⟨xWE_go W e, xQ0_V Q e⟩, fun j j0 j1 => ?_, fun u u0 u1 => ?_, fun hp => ?_⟩
  · rw [k 3 (by omega), k 4 (by omega), k 315 (by omega), k6]; exact t1
  · rw [k 2 (by omega), k 13 (by omega), k14, k15]; exact t2
  · rw [k 267 (by omega), k 322 (by omega)]
    have vk : ∀ a i : Int, 0 ≤ a → a ≤ 10 → xVw m (269 + 11 * j) a i = xVw M (269 + 11 * j) a i := fun a i a0 a1 => by unfold xVw; rw [k _ (by omega)]
    rcases t4 j j0 j1 with x | ⟨x, y, z, u⟩
    · exact Or.inl x
    · exact Or.inr ⟨x, y, xWE_go z vk, xQ0_V (xQ0_sg u z (s (1 + j) (by omega) (by omega))) vk⟩
  · rw [k 311 (by omega), k 312 (by omega), k 313 (by omega), k (302 + 2 * u) (by omega), k (303 + 2 * u) (by omega)]; exact t5 u u0 u1
  · have e0 : V 0 0 = m 16 0 := (e 0 0 (by decide) (by decide)).symm
    obtain ⟨x, y⟩ := L (by omega)
    exact ⟨xLook_V x e, xCs_V y e⟩
theorem xSg_w {M m : xM} {w b j u : Int} (w1 : 1 ≤ w) (f : ∀ a : Int, 316 ≤ a → a ≤ 321 → m a = M a) (hj : (b = 6 ∧ j = 0) ∨ (b = 7 ∧ j < 7) ∨ (b = 8 ∧ j < 54) ∨ (b = 9 ∧ j < 24) ∨ (b = 10 ∧ j < 32) ∨ (b = 11 ∧ j < 24)) : xSg M (xwr m (310 + b) j u) w w := by
  refine ⟨?_, fun i i0 i1 => ?_, fun i i0 i1 => ?_, fun i i0 i1 => ?_, fun i i0 i1 => ?_, fun i i0 i1 => ?_⟩ <;> rw [xwr_n _ (by omega), f _ (by decide) (by decide)]
theorem set_s {M : xM} (S : Sim M) {r i v b j u : Int} (r0 : 0 ≤ r) (r1 : r ≤ 10) (W : xWE (xwr (xVw M 16) r i v)) (hj : (b = 6 ∧ j = 0) ∨ (b = 7 ∧ j < 7) ∨ (b = 8 ∧ j < 54) ∨ (b = 9 ∧ j < 24) ∨ (b = 10 ∧ j < 32) ∨ (b = 11 ∧ j < 24)) (hQ : ∀ m : xM, xQ0 m 310 0 (xVw M 16) → xQ0 (xwr m (310 + b) j u) 310 0 (xwr (xVw M 16) r i v)) : ∃ m1 : xM, fD_settle 1 (xwr M (16 + r) i v) = some m1 ∧ m1 0 = M 0 ∧ (∀ a : Int, 266 ≤ a → m1 a = M a) ∧ (xwr (xwr m1 310 0 0) (310 + b) j u) 0 = M 0 ∧ Sim (xwr (xwr m1 310 0 0) (310 + b) j u) := by
  have hv : xPv (xwr M (16 + r) i v) 16 (xwr (xVw M 16) r i v) := xPv_w (xPv_V M 16) r i v
  obtain ⟨m1, e1, f1, l1, c1⟩ := settle_s hv W
  have g1 : ∀ a : Int, (a < 16 ∨ 26 < a) → (a < 39 ∨ 146 < a) → (a < 257 ∨ 258 < a) → m1 a = M a := fun a x y z => by rw [f1 a y z, xwr_a _ (by omega)]
  have g2 : ∀ a : Int, a ≠ 310 → a ≠ 310 + b → (xwr (xwr m1 310 0 0) (310 + b) j u) a = m1 a := fun a x y => by rw [xwr_a _ y, xwr_a _ x]
  refine ⟨m1, e1, g1 0 (by omega) (by omega) (by omega), fun a ha => g1 a (by omega) (by omega) (by omega), by rw [g2 0 (by omega) (by omega), g1 0 (by omega) (by omega) (by omega)], ?_⟩
  have z310 : ∀ x : Int, x ≠ 0 → (xwr (xwr m1 310 0 0) (310 + b) j u) 310 x = M 310 x := fun x hx => by rw [xwr_n _ (by omega), xwr_n _ (by omega), g1 310 (by omega) (by omega) (by omega)]
  refine Sim_0 (V := xwr (xVw M 16) r i v) S (fun a ha => ?_) (z310 6 (by decide)) (z310 14 (by decide)) (z310 15 (by decide)) (fun a x a0 a1 => ?_) W ?_ (fun w w1 _ => xSg_w w1 (fun a a0 a1 => ?_) hj) (fun _ => ⟨?_, ?_⟩)
  · rw [g2 a (by omega) (by omega), g1 a (by omega) (by omega) (by omega)]
  · show (xwr (xwr m1 310 0 0) (310 + b) j u) (16 + a) x = _
    rw [g2 _ (by omega) (by omega), f1 _ (by omega) (by omega), xwr_at, xwr_at]
    by_cases h : a = r ∧ x = i
    · rw [if_pos h, if_pos (by omega)]
    · rw [if_neg h, if_neg (by omega)]; rfl
  · refine hQ _ ⟨xQd_go S.2.2.1.2.1 (fun a a0 a1 => ?_), ?_⟩
    · rw [xwr_a _ (by omega), g1 a (by omega) (by omega) (by omega)]
    · rw [xwr_a _ (by omega), g1 _ (by omega) (by omega) (by omega)]; exact S.2.2.1.2.2
  · rw [xwr_a _ (by omega), g1 a (by omega) (by omega) (by omega)]
  · exact xLook_go W.1 l1 (fun a a0 a1 _ => g2 a (by omega) (by omega))
  · unfold xCs at c1 ⊢
    rw [g2 (256 + 1) (by omega) (by omega), g2 (256 + 2) (by omega) (by omega)]
    exact c1
theorem xnk_a {m M : xM} {a w c : Int} (h : m a = M a) : ∀ n : Nat, xnk m a w c n = xnk M a w c n
  | 0 => rfl
  | n + 1 => by unfold xnk; rw [xnk_a h n, h]
theorem WE_3 {V : xM} (w : xWE V) {c x : Int} (x0 : 0 ≤ x) (x1 : x ≤ 9) : xWE (xwr V 3 c x) := by
  have e0 := fun i => xwr_r (V := V) (a := 3) (c := c) (v := x) 0 i (by decide)
  have e1 := fun i => xwr_r (V := V) (a := 3) (c := c) (v := x) 1 i (by decide)
  have e2 := fun i => xwr_r (V := V) (a := 3) (c := c) (v := x) 2 i (by decide)
  have e5 := fun i => xwr_r (V := V) (a := 3) (c := c) (v := x) 5 i (by decide)
  have e6 := fun i => xwr_r (V := V) (a := 3) (c := c) (v := x) 6 i (by decide)
  have e8 := fun i => xwr_r (V := V) (a := 3) (c := c) (v := x) 8 i (by decide)
  have e10 := fun i => xwr_r (V := V) (a := 3) (c := c) (v := x) 10 i (by decide)
  unfold xWE xWF at w ⊢
  simp only [e0, e1, e2, e5, e6, e8, e10]
  refine ⟨⟨w.1.1, w.1.2.1, w.1.2.2.1, w.1.2.2.2.1, fun d d0 d1 => ?_, w.1.2.2.2.2.2⟩, w.2⟩
  have z := w.1.2.2.2.2.1 d d0 d1
  refine ⟨z.1, z.2.1, z.2.2.1, ?_, z.2.2.2.2⟩
  rw [xwr_at]
  split
  · exact ⟨x0, x1⟩
  · exact z.2.2.2.1
theorem Q0_3 {V m : xM} {c x : Int} (Q : xQ0 m 310 0 V) : xQ0 (xwr m (310 + 8) (6 * c + 2) x) 310 0 (xwr V 3 c x) := by
  have e0 := fun i => xwr_r (V := V) (a := 3) (c := c) (v := x) 0 i (by decide)
  have e1 := fun i => xwr_r (V := V) (a := 3) (c := c) (v := x) 1 i (by decide)
  have e2 := fun i => xwr_r (V := V) (a := 3) (c := c) (v := x) 2 i (by decide)
  have e4 := fun i => xwr_r (V := V) (a := 3) (c := c) (v := x) 4 i (by decide)
  have e5 := fun i => xwr_r (V := V) (a := 3) (c := c) (v := x) 5 i (by decide)
  have e6 := fun i => xwr_r (V := V) (a := 3) (c := c) (v := x) 6 i (by decide)
  have e7 := fun i => xwr_r (V := V) (a := 3) (c := c) (v := x) 7 i (by decide)
  have e8 := fun i => xwr_r (V := V) (a := 3) (c := c) (v := x) 8 i (by decide)
  have e9 := fun i => xwr_r (V := V) (a := 3) (c := c) (v := x) 9 i (by decide)
  have e10 := fun i => xwr_r (V := V) (a := 3) (c := c) (v := x) 10 i (by decide)
  have f6 : (xwr m (310 + 8) (6 * c + 2) x) (310 + 6) = m (310 + 6) := xwr_a _ (by decide)
  have f7 : (xwr m (310 + 8) (6 * c + 2) x) (310 + 7) = m (310 + 7) := xwr_a _ (by decide)
  have f9 : (xwr m (310 + 8) (6 * c + 2) x) (310 + 9) = m (310 + 9) := xwr_a _ (by decide)
  have f10 : (xwr m (310 + 8) (6 * c + 2) x) (310 + 10) = m (310 + 10) := xwr_a _ (by decide)
  have f11 : (xwr m (310 + 8) (6 * c + 2) x) (310 + 11) = m (310 + 11) := xwr_a _ (by decide)
  have nv : ∀ d s : Int, xnv (xwr V 3 c x) d s = xnv V d s := fun d s => by unfold xnv; rw [e0, e0]
  unfold xQ0 xQd at Q ⊢
  simp only [e0, e1, e2, e4, e5, e6, e7, e8, e9, e10, f6, f7, f9, f10, f11, xnk_a f9, nv]
  refine ⟨⟨Q.1.1, fun d d0 d1 => ?_, Q.1.2.2⟩, Q.2⟩
  obtain ⟨q0, q1, q2, q3, q4, q5⟩ := Q.1.2.1 d d0 d1
  refine ⟨?_, ?_, ?_, ?_, ?_, ?_⟩
  · rw [xwr_n _ (by omega)]; exact q0
  · rw [xwr_n _ (by omega)]; exact q1
  · rw [xwr_at, xwr_at, q2]
    (repeat' split) <;> first | rfl | (exfalso; omega)
  · rw [xwr_n _ (by omega)]; exact q3
  · rw [xwr_n _ (by omega)]; exact q4
  · rw [xwr_n _ (by omega)]; exact q5
theorem call_52 {M : xM} (S : Sim M) (c x : Int) : xC3 (fD_temper 1 c x M) (fQ_temper 310 c x) M := by
  have K : xKp M (xwr M 310 0 0) := xKp_w (xKp_rfl M) (by decide) (by decide) (by decide)
  have W := S.2.2.1.1
  have Q := S.2.2.1.2
  have hN := W.1.1
  have hv := xPv_V M 16
  unfold fD_temper
  rw [hasCell_s, show M (1 + 15) 0 = xVw M 16 0 0 from xPv_0 hv 0 (by decide) (by decide)]
  simp only [if10]
  by_cases h1 : 0 ≤ c ∧ c < xVw M 16 0 0
  · rw [if_neg (not_not_intro h1)]
    by_cases h2 : 0 ≤ x ∧ x ≤ 9
    · rw [if_neg (show ¬ x < 0 by omega), if_neg (show ¬ 9 < x by omega), xA_p (by omega), xA_p (by omega)]
      obtain ⟨m1, e1, z1, f1, z2, T⟩ := set_s S (r := 3) (i := c) (v := x) (b := 8) (j := 6 * c + 2) (u := x) (by decide) (by decide) (WE_3 W h2.1 h2.2) (by omega) (fun m hm => Q0_3 hm)
      have Q1 : xQ0 (xwr m1 310 0 0) 310 0 (xVw M 16) := ⟨xQd_go Q.1 (fun a a0 a1 => by rw [xwr_a _ (by omega), f1 a (by omega)]), by rw [xwr_a _ (by omega), f1 _ (by omega)]; exact Q.2⟩
      refine ⟨M (16 + 3) c, m1, _, by show xB (fD_settle 1 (xwr M (16 + 3) c x)) _ = _; rw [e1]; rfl, z1, ?_, z2, T⟩
      unfold fQ_temper fQ_sets3
      rw [qCell_s Q1 W, fQ_in_s]
      simp only [if10]
      rw [if_neg (not_not_intro h1), if_neg (not_not_intro h2), xw32_id (x := 6 * c) (by omega) (by omega), xw32_id (x := 6 * c + 2) (by omega) (by omega), xA_p (by omega), xA_p (by omega), xB_s]
      have q2 := (Q1.1.2.1 c h1.1 (by omega)).2.2.1
      rw [show 54 * (0 : Int) + 6 * c + 2 = 6 * c + 2 by omega] at q2
      show some ((xwr m1 310 0 0) (310 + 8) (6 * c + 2), _) = _
      rw [q2]
      rfl
    · have dd : (if x < 0 then some ((-2 : Int), M) else if 9 < x then some (-2, M) else xA (0 ≤ c ∧ c < 9) (xA (0 ≤ c ∧ c < 9) (xB (fD_settle 1 (xwr M (1 + 15 + 3) c x)) (fun m2 => some (M (1 + 15 + 3) c, m2))))) = some (-2, M) := by
        by_cases y : x < 0
        · rw [if_pos y]
        · rw [if_neg y, if_pos (by omega)]
      rw [dd]
      refine xC3_k S ?_ K
      unfold fQ_temper
      rw [qCell_s (xQ0_kp Q K) W, fQ_in_s]
      simp only [if10]
      rw [if_neg (not_not_intro h1), if_pos h2]
  · rw [if_pos h1]
    refine xC3_k S ?_ K
    unfold fQ_temper
    rw [qCell_s (xQ0_kp Q K) W]
    simp only [if10]
    rw [if_pos h1]
end
