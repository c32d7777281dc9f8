/-! feed, end -/
noncomputable section
theorem Sim_1 {M m : xM} (S : Sim M) (k : ∀ a : Int, xPer a → a ≠ 3 → a ≠ 4 → a ≠ 315 → m a = M a) (k14 : m 310 14 = M 310 14) (k15 : m 310 15 = M 310 15) (h : m 3 1 = m 310 6 ∧ 0 ≤ m 3 1 ∧ m 3 1 ≤ 1600 ∧ (∀ i : Int, 0 ≤ i → i < 1600 → m 4 i = m 315 i ∧ -128 ≤ m 4 i ∧ m 4 i < 128)) : Sim m := by
  obtain ⟨t1, t2, t3, t4, t5, t6⟩ := S
  have v16 : ∀ a i : Int, 0 ≤ a → a ≤ 10 → xVw m 16 a i = xVw M 16 a i := fun a i a0 a1 => by unfold xVw; rw [k _ (by unfold xPer; omega) (by omega) (by omega) (by omega)]
  have q : ∀ w U, xQ0 M 310 w U → xQ0 m 310 w U := fun w U hU => ⟨xQd_go hU.1 (fun a a0 a1 => k a (by unfold xPer; omega) (by omega) (by omega) (by omega)), by rw [k (310 + 7) (by unfold xPer; omega) (by omega) (by omega) (by omega)]; exact hU.2⟩
  refine ⟨h, ?_, ⟨xWE_go t3.1 v16, xQ0_V (q _ _ t3.2) v16⟩, fun j j0 j1 => ?_, fun s a b => ?_, fun hp => ?_⟩
  · rw [k 2 (by unfold xPer; omega) (by omega) (by omega) (by omega), k 13 (by unfold xPer; omega) (by omega) (by omega) (by omega), k14, k15]; exact t2
  · rw [k 267 (by unfold xPer; omega) (by omega) (by omega) (by omega), k 322 (by unfold xPer; omega) (by omega) (by omega) (by omega)]
    have vk : ∀ a i : Int, 0 ≤ a → a ≤ 10 → xVw m (269 + 11 * j) a i = xVw M (269 + 11 * j) a i := fun a i a0 a1 => by unfold xVw; rw [k _ (by unfold xPer; omega) (by omega) (by omega) (by omega)]
    rcases t4 j j0 j1 with x | ⟨x, y, z, u⟩
    · exact Or.inl x
    · exact Or.inr ⟨x, y, xWE_go z vk, xQ0_V (q _ _ u) vk⟩
  · rw [k 311 (by unfold xPer; omega) (by omega) (by omega) (by omega), k 312 (by unfold xPer; omega) (by omega) (by omega) (by omega), k 313 (by unfold xPer; omega) (by omega) (by omega) (by omega), k (302 + 2 * s) (by unfold xPer; omega) (by omega) (by omega) (by omega), k (303 + 2 * s) (by unfold xPer; omega) (by omega) (by omega) (by omega)]
    exact t5 s a b
  · rw [k 16 (by unfold xPer; omega) (by omega) (by omega) (by omega)] at hp
    obtain ⟨x, y⟩ := t6 hp
    refine ⟨xLook_V (xLook_go t3.1.1 x (fun a a0 a1 a2 => k a (by unfold xPer; omega) (by omega) (by omega) (by omega))) v16, xCs_V ?_ v16⟩
    unfold xCs at y ⊢
    rw [k (256 + 1) (by unfold xPer; omega) (by omega) (by omega) (by omega), k (256 + 2) (by unfold xPer; omega) (by omega) (by omega) (by omega)]
    exact y
def xby (v x : Int) : Int := xw8 (xw8 (xshr v x))
/-- what four bytes more make of a row b that is counted at (a, i) -/
def xaq (M m : xM) (a i b v : Int) (k : Int) : Prop := m a i = M a i + k ∧ (∀ j : Int, j ≠ i → m a j = M a j) ∧ (∀ c : Int, c ≠ a → c ≠ b → m c = M c) ∧ ∀ j : Int, m b j = if M a i ≤ j ∧ j < M a i + k then xby v (8 * k - 8 - 8 * (j - M a i)) else M b j
theorem append_L {v : Int} : ∀ (k g : Nat) (m : xM), k < g → k ≤ 4 → 0 ≤ m 3 1 → m 3 1 + k ≤ 1600 → xP (fTape_append_L3 g 3 v (8 * (k : Int) - 8) m) (fun m' => xaq m m' 3 1 4 v k)
  | _, 0, _, hg, _, _, _ => absurd hg (Nat.not_lt_zero _)
  | 0, g + 1, m, _, _, _, _ => by
    unfold fTape_append_L3
    rw [if_pos (by omega)]
    exact xP_some ⟨by omega, fun _ _ => rfl, fun _ _ _ => rfl, fun j => by rw [if_neg (by omega)]⟩
  | k + 1, g + 1, m, hg, hk, h0, h1 => by
    unfold fTape_append_L3
    rw [if_neg (by omega), if_pos (by omega), xA_p (by omega), xwr_n (a := 3 + 1) _ (by omega), xw32_id (x := m 3 1 + 1) (by omega) (by omega), xw32_id (x := 8 * ((k + 1 : Nat) : Int) - 8 + -8) (by omega) (by omega), show 8 * ((k + 1 : Nat) : Int) - 8 + -8 = 8 * (k : Int) - 8 by omega]
    have e : (xwr (xwr m (3 + 1) (m 3 1) (xw8 (xw8 (xshr v (8 * ((k + 1 : Nat) : Int) - 8))))) 3 1 (m 3 1 + 1)) 3 1 = m 3 1 + 1 := xwr_s _ _ _ _
    refine xP_mono (append_L k g _ (by omega) (by omega) (by rw [e]; omega) (by rw [e]; omega)) ?_
    rintro m' ⟨a, b, c, d⟩
    rw [e] at a d
    refine ⟨by omega, fun j hj => ?_, fun x x1 x2 => ?_, fun j => ?_⟩
    · rw [b j hj, xwr_n _ (by omega), xwr_n _ (by omega)]
    · rw [c x x1 x2, xwr_a _ x1, xwr_a _ (show x ≠ 3 + 1 from x2)]
    · rw [d, xwr_n _ (by omega), xwr_at]
      by_cases x : j = m 3 1
      · subst x
        rw [if_neg (by omega), if_pos (by omega), if_pos (by omega), show 8 * ((k + 1 : Nat) : Int) - 8 - 8 * (m 3 1 - m 3 1) = 8 * ((k + 1 : Nat) : Int) - 8 by omega]
        rfl
      · by_cases y : m 3 1 ≤ j ∧ j < m 3 1 + ((k + 1 : Nat) : Int)
        · rw [if_pos (by omega), if_pos y]
          congr 1
          omega
        · rw [if_neg (by omega), if_neg (by omega), if_neg y]
theorem four_L {v : Int} : ∀ (k g : Nat) (m : xM), k < g → k ≤ 4 → 0 ≤ m 310 6 → m 310 6 + k ≤ 1600 → xP (fQ_four_L3 g 310 v (8 * (k : Int) - 8) m) (fun m' => xaq m m' 310 6 315 v k)
  | _, 0, _, hg, _, _, _ => absurd hg (Nat.not_lt_zero _)
  | 0, g + 1, m, _, _, _, _ => by
    unfold fQ_four_L3
    rw [if_pos (by omega)]
    exact xP_some ⟨by omega, fun _ _ => rfl, fun _ _ _ => rfl, fun j => by rw [if_neg (by omega)]⟩
  | k + 1, g + 1, m, hg, hk, h0, h1 => by
    unfold fQ_four_L3
    rw [if_neg (by omega), xA_p (by omega), xwr_n (a := 310 + 5) _ (by omega), xw32_id (x := m 310 6 + 1) (by omega) (by omega), xw32_id (x := 8 * ((k + 1 : Nat) : Int) - 8 + -8) (by omega) (by omega), show 8 * ((k + 1 : Nat) : Int) - 8 + -8 = 8 * (k : Int) - 8 by omega]
    have e : (xwr (xwr m (310 + 5) (m 310 6) (xw8 (xw8 (xshr v (8 * ((k + 1 : Nat) : Int) - 8))))) 310 6 (m 310 6 + 1)) 310 6 = m 310 6 + 1 := xwr_s _ _ _ _
    refine xP_mono (four_L k g _ (by omega) (by omega) (by rw [e]; omega) (by rw [e]; omega)) ?_
    rintro m' ⟨a, b, c, d⟩
    rw [e] at a d
    refine ⟨by omega, fun j hj => ?_, fun x x1 x2 => ?_, fun j => ?_⟩
    · rw [b j hj, xwr_n _ (by omega), xwr_n _ (by omega)]
    · rw [c x x1 x2, xwr_a _ x1, xwr_a _ (show x ≠ 310 + 5 from x2)]
    · rw [d, xwr_n _ (by omega), xwr_at]
      by_cases x : j = m 310 6
      · subst x
        rw [if_neg (by omega), if_pos (by omega), if_pos (by omega), show 8 * ((k + 1 : Nat) : Int) - 8 - 8 * (m 310 6 - m 310 6) = 8 * ((k + 1 : Nat) : Int) - 8 by omega]
        rfl
      · by_cases y : m 310 6 ≤ j ∧ j < m 310 6 + ((k + 1 : Nat) : Int)
        · rw [if_pos (by omega), if_pos y]
          congr 1
          omega
        · rw [if_neg (by omega), if_neg (by omega), if_neg y]
/-- a row of bytes, counted -/
def xrw (m : xM) (a i b n : Int) (f : Int → Int) (M : xM) : Prop := m a i = n ∧ (∀ j : Int, j ≠ i → m a j = M a j) ∧ (∀ c : Int, c ≠ a → c ≠ b → m c = M c) ∧ ∀ j : Int, m b j = f j
def xup (f : Int → Int) (n v : Int) : Int → Int := fun j => if n ≤ j ∧ j < n + 4 then xby v (24 - 8 * (j - n)) else f j
theorem xrw_up {M m m' : xM} {a i b n v : Int} {f : Int → Int} (h : xrw m a i b n f M) (k : xaq m m' a i b v (4 : Nat)) : xrw m' a i b (n + 4) (xup f n v) M := by
  obtain ⟨h1, h2, h3, h4⟩ := h
  obtain ⟨k1, k2, k3, k4⟩ := k
  refine ⟨by rw [k1, h1]; rfl, fun j hj => (k2 j hj).trans (h2 j hj), fun c c1 c2 => (k3 c c1 c2).trans (h3 c c1 c2), fun j => ?_⟩
  rw [k4, h1, h4]
  rfl
theorem append_s {M m : xM} {n v : Int} {f : Int → Int} (h : xrw m 3 1 4 n f M) (h0 : 0 ≤ n) (h1 : n + 4 ≤ 1600) : xP (fTape_append 3 v m) (fun m' => xrw m' 3 1 4 (n + 4) (xup f n v) M) := by
  refine xP_mono (append_L (v := v) 4 20001 m (by omega) (by omega) (by rw [h.1]; omega) (by rw [h.1]; omega)) (fun m' k => xrw_up h k)
theorem four_s {M m : xM} {n v : Int} {f : Int → Int} (h : xrw m 310 6 315 n f M) (h0 : 0 ≤ n) (h1 : n + 4 ≤ 1600) : xP (fQ_four 310 v m) (fun m' => xrw m' 310 6 315 (n + 4) (xup f n v) M) := by
  refine xP_mono (four_L (v := v) 4 20001 m (by omega) (by omega) (by rw [h.1]; omega) (by rw [h.1]; omega)) (fun m' k => xrw_up h k)
theorem xup_eq {f g : Int → Int} {n v : Int} (h : ∀ i : Int, 0 ≤ i → i < 1600 → f i = g i ∧ -128 ≤ f i ∧ f i < 128) : ∀ i : Int, 0 ≤ i → i < 1600 → xup f n v i = xup g n v i ∧ -128 ≤ xup f n v i ∧ xup f n v i < 128 := by
  intro i i0 i1
  unfold xup
  by_cases e : n ≤ i ∧ i < n + 4
  · rw [if_pos e, if_pos e]
    exact ⟨rfl, xw8_rg _⟩
  · rw [if_neg e, if_neg e]
    exact h i i0 i1
theorem call_0 {M : xM} (S : Sim M) (v1 v2 v3 v4 v5 : Int) : xC3 (fD_feed 1 v1 v2 v3 v4 v5 M) (fQ_feed 310 v1 v2 v3 v4 v5) M := by
  have K : xKp M (xwr M 310 0 0) := xKp_w (xKp_rfl M) (by decide) (by decide) (by decide)
  obtain ⟨c1, c2, c3, c4⟩ := S.1
  unfold fD_feed
  rw [show (1 : Int) + 1 + 1 = 3 from rfl, xw32_id (x := M 3 1 + 20) (by omega) (by omega)]
  by_cases h : 1600 < M 3 1 + 20
  · rw [if_pos h]
    refine xC3_k S ?_ K
    unfold fQ_feed
    rw [xwr_n _ (by omega), ← c1, xw32_id (x := M 3 1 + 20) (by omega) (by omega), if_pos h]
  · rw [if_neg h]
    have d : xP (xB (fTape_append 3 v1 M) (fun m1 => xB (fTape_append 3 v2 m1) (fun m2 => xB (fTape_append 3 v3 m2) (fun m3 => xB (fTape_append 3 v4 m3) (fun m4 => xB (fTape_append 3 v5 m4) (fun m5 => some ((m5 3 1), m5))))))) (fun x => x.1 = M 3 1 + 20 ∧ xrw x.2 3 1 4 (M 3 1 + 20) (xup (xup (xup (xup (xup (M 4) (M 3 1) v1) (M 3 1 + 4) v2) (M 3 1 + 4 + 4) v3) (M 3 1 + 4 + 4 + 4) v4) (M 3 1 + 4 + 4 + 4 + 4) v5) M) := by
      refine xP_B (append_s (v := v1) (n := M 3 1) (f := M 4) (M := M) ⟨rfl, fun _ _ => rfl, fun _ _ _ => rfl, fun _ => rfl⟩ c2 (by omega)) (fun m1 k1 => ?_)
      refine xP_B (append_s (v := v2) k1 (by omega) (by omega)) (fun m2 k2 => ?_)
      refine xP_B (append_s (v := v3) k2 (by omega) (by omega)) (fun m3 k3 => ?_)
      refine xP_B (append_s (v := v4) k3 (by omega) (by omega)) (fun m4 k4 => ?_)
      refine xP_B (append_s (v := v5) k4 (by omega) (by omega)) (fun m5 k5 => ?_)
      have e : M 3 1 + 4 + 4 + 4 + 4 + 4 = M 3 1 + 20 := by omega
      rw [e] at k5
      exact xP_some ⟨k5.1, k5⟩
    obtain ⟨⟨r, m5⟩, ed, er, kd⟩ := d
    have er : r = M 3 1 + 20 := er
    have kd : xrw m5 3 1 4 _ _ M := kd
    obtain ⟨kd1, kd2, kd3, kd4⟩ := kd
    have e310 : m5 310 = M 310 := kd3 310 (by omega) (by omega)
    have e315 : m5 315 = M 315 := kd3 315 (by omega) (by omega)
    have q : xP (fQ_feed 310 v1 v2 v3 v4 v5 m5) (fun x => x.1 = M 3 1 + 20 ∧ xrw x.2 310 6 315 (M 3 1 + 20) (xup (xup (xup (xup (xup (M 315) (M 3 1) v1) (M 3 1 + 4) v2) (M 3 1 + 4 + 4) v3) (M 3 1 + 4 + 4 + 4) v4) (M 3 1 + 4 + 4 + 4 + 4) v5) (xwr m5 310 0 0)) := by
      have e6 : (xwr m5 310 0 0) 310 6 = M 3 1 := by rw [xwr_n _ (by omega), e310, c1]
      unfold fQ_feed
      rw [e6, xw32_id (x := M 3 1 + 20) (by omega) (by omega), if_neg h]
      refine xP_B (four_s (v := v1) (n := M 3 1) (f := M 315) (M := xwr m5 310 0 0) ⟨e6, fun _ _ => rfl, fun _ _ _ => rfl, fun j => by rw [xwr_n _ (by omega), e315]⟩ c2 (by omega)) (fun m1 k1 => ?_)
      refine xP_B (four_s (v := v2) k1 (by omega) (by omega)) (fun m2 k2 => ?_)
      refine xP_B (four_s (v := v3) k2 (by omega) (by omega)) (fun m3 k3 => ?_)
      refine xP_B (four_s (v := v4) k3 (by omega) (by omega)) (fun m4 k4 => ?_)
      refine xP_B (four_s (v := v5) k4 (by omega) (by omega)) (fun m5 k5 => ?_)
      have e : M 3 1 + 4 + 4 + 4 + 4 + 4 = M 3 1 + 20 := by omega
      rw [e] at k5
      exact xP_some ⟨k5.1, k5⟩
    obtain ⟨⟨r', m6⟩, eq, er', kq⟩ := q
    have er' : r' = M 3 1 + 20 := er'
    subst er
    subst er'
    have kq : xrw m6 310 6 315 _ _ (xwr m5 310 0 0) := kq
    obtain ⟨kq1, kq2, kq3, kq4⟩ := kq
    have z : ∀ a : Int, a ≠ 3 → a ≠ 4 → a ≠ 310 → a ≠ 315 → m6 a = M a := fun a a1 a2 a3 a4 => by rw [kq3 a a3 a4, xwr_a _ a3, kd3 a a1 a2]
    have z3 : m6 3 = m5 3 := by rw [kq3 3 (by omega) (by omega), xwr_a _ (by omega)]
    have z4 : m6 4 = m5 4 := by rw [kq3 4 (by omega) (by omega), xwr_a _ (by omega)]
    refine ⟨M 3 1 + 20, m5, m6, ed, kd3 0 (by omega) (by omega), eq, z 0 (by omega) (by omega) (by omega) (by omega), ?_⟩
    refine Sim_1 S (fun a ha a1 a2 a3 => z a a1 a2 (by unfold xPer at ha; omega) a3) ?_ ?_ ⟨by rw [z3, kd1, kq1], by rw [z3, kd1]; omega, by rw [z3, kd1]; omega, fun i i0 i1 => ?_⟩
    · rw [kq2 14 (by decide), xwr_n _ (by omega), e310]
    · rw [kq2 15 (by decide), xwr_n _ (by omega), e310]
    · rw [z4, kd4, kq4]
      exact xup_eq (xup_eq (xup_eq (xup_eq (xup_eq c4)))) i i0 i1
theorem call_1 {M : xM} (S : Sim M) (n : Int) : xC3 (some (fD_end 1 n M)) (fun m => some (fQ_end 310 n m)) M := by
  have K : xKp M (xwr M 310 0 0) := xKp_w (xKp_rfl M) (by decide) (by decide) (by decide)
  obtain ⟨c1, c2, c3, c4⟩ := S.1
  by_cases h : 0 ≤ n ∧ n ≤ M 3 1
  · have d : fD_end 1 n M = (n, xwr M 3 1 n) := by
      unfold fD_end
      rw [if_neg (by omega), if_neg (show ¬ M (1 + 1 + 1) 1 < n by rw [show (1 : Int) + 1 + 1 = 3 from rfl]; omega)]
      rfl
    have q : fQ_end 310 n (xwr M 3 1 n) = (n, xwr (xwr (xwr M 3 1 n) 310 0 0) 310 6 n) := by
      unfold fQ_end
      rw [fQ_in_s, xwr_n _ (by omega), xwr_n _ (by omega), ← c1]
      simp only [if10]
      rw [if_neg (not_not_intro h)]
    refine ⟨n, _, _, by rw [d], xwr_a _ (by omega), by show some (fQ_end 310 n (xwr M 3 1 n)) = _; rw [q], by rw [xwr_a _ (by omega), xwr_a _ (by omega), xwr_a _ (by omega)], ?_⟩
    refine Sim_1 S (fun a ha a1 a2 a3 => ?_) ?_ ?_ ⟨?_, ?_, ?_, fun i i0 i1 => ?_⟩
    · rw [xwr_a _ (by unfold xPer at ha; omega), xwr_a _ (by unfold xPer at ha; omega), xwr_a _ a1]
    · rw [xwr_n _ (by omega), xwr_n _ (by omega), xwr_n _ (by omega)]
    · rw [xwr_n _ (by omega), xwr_n _ (by omega), xwr_n _ (by omega)]
    · rw [xwr_s, xwr_n _ (by omega), xwr_n _ (by omega), xwr_s]
    · rw [xwr_n _ (by omega), xwr_n _ (by omega), xwr_s]; exact h.1
    · rw [xwr_n _ (by omega), xwr_n _ (by omega), xwr_s]; omega
    · have e4 : (xwr (xwr (xwr M 3 1 n) 310 0 0) 310 6 n) 4 = M 4 := by rw [xwr_a _ (by omega), xwr_a _ (by omega), xwr_a _ (by omega)]
      have e5 : (xwr (xwr (xwr M 3 1 n) 310 0 0) 310 6 n) 315 = M 315 := by rw [xwr_a _ (by omega), xwr_a _ (by omega), xwr_a _ (by omega)]
      rw [e4, e5]
      exact c4 i i0 i1
  · have d : fD_end 1 n M = (-1, M) := by
      unfold fD_end
      rw [show (1 : Int) + 1 + 1 = 3 from rfl]
      by_cases a : n < 0
      · rw [if_pos a]
      · rw [if_neg a, if_pos (by omega)]
    rw [d]
    refine xC3_k S ?_ K
    show some (fQ_end 310 n M) = some (-1, xwr M 310 0 0)
    unfold fQ_end
    rw [fQ_in_s, xwr_n _ (by omega), ← c1]
    simp only [if10]
    rw [if_pos h]
end
