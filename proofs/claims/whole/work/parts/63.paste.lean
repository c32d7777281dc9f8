/-! write, paste -/
noncomputable section
theorem Sim_row {M m : xM} (S : Sim M) {t b n : Int} (f : Int → Int) (t0 : 0 ≤ t) (t1 : t < 4) (b0 : 0 ≤ b) (b1 : b + n ≤ 60) (k : ∀ a : Int, xPer a → a ≠ 303 + 2 * t → a ≠ 313 → m a = M a) (k6 : ∀ i : Int, i ≠ 0 → m 310 i = M 310 i)
    (hd : ∀ i : Int, m (303 + 2 * t) i = if b ≤ i ∧ i < b + n then f i else M (303 + 2 * t) i) (hq : ∀ j : Int, m 313 j = if 60 * t + b ≤ j ∧ j < 60 * t + b + n then f (j - 60 * t) else M 313 j) : Sim m := by
  refine Sim_5 S (fun a ha hb => k a ha (by omega) (by omega)) (k6 6 (by decide)) (k6 14 (by decide)) (k6 15 (by decide)) (fun u u0 u1 => ?_)
  have T := Sim_sl S u0 u1
  have w1 := k 311 (by unfold xPer; omega) (by omega) (by omega)
  have w2 := k 312 (by unfold xPer; omega) (by omega) (by omega)
  have w3 := k (302 + 2 * u) (by unfold xPer; omega) (by omega) (by omega)
  unfold xSl at T ⊢
  rw [w1, w2, w3]
  rcases T with T | ⟨a, b, c, d, e, g⟩
  · exact Or.inl T
  · refine Or.inr ⟨a, b, c, d, e, fun i i0 i1 => ?_⟩
    by_cases x : u = t
    · subst x
      rw [hd, hq, g i i0 i1, show 60 * u + i - 60 * u = i by omega]
      (repeat' split) <;> first | rfl | (exfalso; omega)
    · rw [hq, if_neg (by omega), k (303 + 2 * u) (by unfold xPer; omega) (by omega) (by omega)]
      exact g i i0 i1
theorem slotput_s {M : xM} {p i v kd : Int} (hk : M p 1 = kd) (k0 : 0 ≤ kd) (k1 : kd ≤ 3) (i0 : 0 ≤ i) (i1 : i < 60) (m : xM) : fSlot_put p i v M = some (xwr M (p + 1) i (fQ_cut v kd m)) := by
  unfold fSlot_put fQ_cut
  rw [hk, if_neg (show ¬ kd < 0 by omega)]
  by_cases a : kd = 0
  · subst a; rw [if_pos (by decide), if_pos rfl, xA_p (by omega)]
  · rw [if_neg (by omega), if_neg a]
    by_cases b : kd = 1
    · subst b; rw [if_pos (by decide), if_pos rfl, xA_p (by omega)]
    · rw [if_neg (by omega), if_neg b]
      by_cases c : kd = 2
      · subst c; rw [if_pos (by decide), if_pos rfl, xA_p (by omega)]
      · rw [if_neg (by omega), if_neg c, xA_p (by omega)]
theorem cut_m (v kd : Int) (m k : xM) : fQ_cut v kd m = fQ_cut v kd k := rfl
theorem call_64 {M : xM} (S : Sim M) (s i v : Int) : xC3 (fD_write 1 s i v M) (fQ_write 310 s i v) M := by
  have K : xKp M (xwr M 310 0 0) := xKp_w (xKp_rfl M) (by decide) (by decide) (by decide)
  unfold fD_write
  rw [isSlot_s]
  simp only [if10]
  by_cases h1 : 0 ≤ s ∧ s ≤ 3
  · have T := Sim_sl S h1.1 (show s < 4 by omega)
    have z : 1 + 267 + 34 + 2 * s = 302 + 2 * s := by omega
    rw [if_neg (not_not_intro h1), xA_p (by omega), z]
    rcases T with ⟨a, b⟩ | ⟨a, b, c, d, e, g⟩
    · rw [if_pos a]
      refine xC3_k S ?_ K
      unfold fQ_write
      rw [qSlot_s]
      simp only [if10]
      rw [if_neg (not_not_intro h1), xA_p (by omega), if_pos (show (xwr M 310 0 0) (310 + 1) s = -1 from b)]
    · rw [if_neg (by omega)]
      have e1 : (xwr M 310 0 0) (310 + 1) s = M 311 s := xwr_n _ (by omega)
      have e2 : (xwr M 310 0 0) (310 + 2) s = M 312 s := xwr_n _ (by omega)
      by_cases h2 : 0 ≤ i ∧ i < M 312 s
      · rw [if_neg (show ¬ i < 0 by omega), xA_p (by omega), d, if_pos h2.2, xA_p (by omega), slotput_s b c.1 c.2 h2.1 (by omega) (xwr M 310 0 0), xB_s]
        refine ⟨0, _, xwr (xwr (xwr M (302 + 2 * s + 1) i (fQ_cut v (M 311 s) M)) 310 0 0) 313 (60 * s + i) (fQ_cut v (M 311 s) M), rfl, xwr_a _ (by omega), ?_, by rw [xwr_a _ (by omega), xwr_a _ (by omega), xwr_a _ (by omega)], ?_⟩
        · unfold fQ_write
          have e1' : (xwr (xwr M (302 + 2 * s + 1) i (fQ_cut v (M 311 s) (xwr M 310 0 0))) 310 0 0) (310 + 1) s = M 311 s := by rw [xwr_n _ (by omega), xwr_n _ (by omega)]; rfl
          have e2' : (xwr (xwr M (302 + 2 * s + 1) i (fQ_cut v (M 311 s) (xwr M 310 0 0))) 310 0 0) (310 + 2) s = M 312 s := by rw [xwr_n _ (by omega), xwr_n _ (by omega)]; rfl
          rw [qSlot_s, fQ_in_s, e1', e2', xw32_id (x := M 312 s - 1) (by omega) (by omega), xw32_id (x := 60 * s) (by omega) (by omega), xw32_id (x := 60 * s + i) (by omega) (by omega)]
          simp only [if10]
          rw [if_neg (not_not_intro h1), xA_p (by omega), if_neg (by omega), xA_p (by omega), if_neg (not_not_intro (show 0 ≤ i ∧ i ≤ M 312 s - 1 by omega)), xA_p (by omega), xA_p (by omega)]
          rfl
        · refine Sim_row S (t := s) (b := i) (n := 1) (fun _ => fQ_cut v (M 311 s) M) h1.1 (by omega) h2.1 (by omega) (fun a ha a1 a2 => ?_) (fun j hj => ?_) (fun j => ?_) (fun j => ?_)
          · rw [xwr_a _ (by omega), xwr_a _ (by unfold xPer at ha; omega), xwr_a _ (by omega)]
          · rw [xwr_n _ (by omega), xwr_n _ (by omega), xwr_n _ (by omega)]
          · rw [xwr_n _ (by omega), xwr_n _ (by omega), xwr_at]
            (repeat' split) <;> first | rfl | (exfalso; omega)
          · rw [xwr_at, xwr_n _ (by omega), xwr_n _ (by omega)]
            (repeat' split) <;> first | rfl | (exfalso; omega)
      · have dd : (if i < 0 then some ((-7 : Int), M) else xA (0 ≤ s ∧ s < 4) (if i < M (302 + 2 * s) 2 then xA (0 ≤ s ∧ s < 4) (xB (fSlot_put (302 + 2 * s) i v M) (fun m2 => some (0, m2))) else some (-7, M))) = some (-7, M) := by
          by_cases x : i < 0
          · rw [if_pos x]
          · rw [if_neg x, xA_p (by omega), if_neg (by rw [d]; omega)]
        rw [dd]
        refine xC3_k S ?_ K
        unfold fQ_write
        rw [qSlot_s, fQ_in_s, e1, e2, xw32_id (x := M 312 s - 1) (by omega) (by omega)]
        simp only [if10]
        rw [if_neg (not_not_intro h1), xA_p (by omega), if_neg (by omega), xA_p (by omega), if_pos (show ¬ (0 ≤ i ∧ i ≤ M 312 s - 1) by omega)]
  · rw [if_pos h1]
    refine xC3_k S ?_ K
    unfold fQ_write
    rw [qSlot_s]
    simp only [if10]
    rw [if_pos h1]
theorem paste2_L {t b n : Int} (t0 : 0 ≤ t) (t1 : t < 4) (b0 : 0 ≤ b) (b1 : b + n ≤ 60) : ∀ (k g i : Nat) (m : xM), k < g → (i : Int) + k = n → xP (fQ_paste_L155 g 310 t b n (i : Int) m) (fun x => x.1 = 0 ∧ xF 313 313 m x.2 ∧ ∀ j : Int, x.2 313 j = if 60 * t + b + (i : Int) ≤ j ∧ j < 60 * t + b + n then m 314 (j - 60 * t - b) else m 313 j)
  | _, 0, _, _, hg, _ => absurd hg (Nat.not_lt_zero _)
  | 0, g + 1, i, m, _, hi => by
    unfold fQ_paste_L155
    rw [if_neg (by omega)]
    exact xP_some ⟨rfl, xF_rfl _ _ _, fun j => by rw [if_neg (by omega)]⟩
  | k + 1, g + 1, i, m, hg, hi => by
    unfold fQ_paste_L155
    rw [if_pos (by omega), xA_p (by omega), xw32_id (x := 60 * t) (by omega) (by omega), xw32_id (x := 60 * t + b) (by omega) (by omega), xw32_id (x := 60 * t + b + (i : Int)) (by omega) (by omega), xA_p (by omega), xw32_id (x := (i : Int) + 1) (by omega) (by omega)]
    refine xP_mono (paste2_L t0 t1 b0 b1 k g (i + 1) _ (by omega) (by omega)) ?_
    rintro ⟨r, m'⟩ ⟨hr, hF, hm⟩
    refine ⟨hr, xF_tr (xwr_F (xF_rfl _ _ _) (by omega) (by omega)) hF, fun j => ?_⟩
    show m' 313 j = _
    rw [show m' 313 j = _ from hm j, xwr_n _ (by omega), xwr_at]
    by_cases e : j = 60 * t + b + (i : Int)
    · rw [if_neg (by omega), if_pos (by omega), if_pos (by omega)]
      show m 314 (i : Int) = _
      congr 1
      omega
    · by_cases h : 60 * t + b + (i : Int) ≤ j ∧ j < 60 * t + b + n
      · rw [if_pos (by omega), if_pos h]
      · rw [if_neg (by omega), if_neg (by omega), if_neg h]
theorem paste1_L {s a t b n : Int} (s0 : 0 ≤ s) (s1 : s < 4) (a0 : 0 ≤ a) (a1 : a + n ≤ 60) : ∀ (k g i : Nat) (m : xM), k < g → (i : Int) + k = n → ∃ m' : xM, fQ_paste_L118 g 310 s a t b n (i : Int) m = fQ_paste_L155 20001 310 t b n 0 m' ∧ xF 314 314 m m' ∧ ∀ j : Int, m' 314 j = if (i : Int) ≤ j ∧ j < n then m 313 (60 * s + a + j) else m 314 j
  | _, 0, _, _, hg, _ => absurd hg (Nat.not_lt_zero _)
  | 0, g + 1, i, m, _, hi => by
    refine ⟨m, ?_, xF_rfl _ _ _, fun j => by rw [if_neg (by omega)]⟩
    rw [fQ_paste_L118, if_neg (by omega)]
  | k + 1, g + 1, i, m, hg, hi => by
    obtain ⟨m', e, f, h⟩ := paste1_L (t := t) (b := b) s0 s1 a0 a1 k g (i + 1) (xwr m (310 + 4) (i : Int) (m (310 + 3) (60 * s + a + (i : Int)))) (by omega) (by omega)
    refine ⟨m', ?_, xF_tr (xwr_F (xF_rfl _ _ _) (by omega) (by omega)) f, fun j => ?_⟩
    · rw [fQ_paste_L118, if_pos (by omega), xw32_id (x := 60 * s) (by omega) (by omega), xw32_id (x := 60 * s + a) (by omega) (by omega), xw32_id (x := 60 * s + a + (i : Int)) (by omega) (by omega), xA_p (by omega), xA_p (by omega), xw32_id (x := (i : Int) + 1) (by omega) (by omega)]
      exact e
    · rw [h j, xwr_n _ (by omega), xwr_at]
      by_cases x : j = (i : Int)
      · subst x
        rw [if_neg (by omega), if_pos (by omega), if_pos (by omega)]
        rfl
      · by_cases y : (i : Int) ≤ j ∧ j < n
        · rw [if_pos (by omega), if_pos y]
        · rw [if_neg (by omega), if_neg (by omega), if_neg y]
theorem call_65 {M : xM} (S : Sim M) (s a t b n : Int) (xa : x32 a) (xb : x32 b) (xn : x32 n) : xC3 (fD_paste 1 s a t b n M) (fQ_paste 310 s a t b n) M := by
  have K : xKp M (xwr M 310 0 0) := xKp_w (xKp_rfl M) (by decide) (by decide) (by decide)
  unfold x32 at xa xb xn
  unfold fD_paste
  rw [isSlot_s, isSlot_s]
  simp only [if10]
  by_cases h1 : 0 ≤ s ∧ s ≤ 3
  · rw [if_neg (not_not_intro h1)]
    by_cases h2 : 0 ≤ t ∧ t ≤ 3
    · have T1 := Sim_sl S h1.1 (show s < 4 by omega)
      have T2 := Sim_sl S h2.1 (show t < 4 by omega)
      have u1 : (xwr M 310 0 0) (310 + 1) s = M 311 s := xwr_n _ (by omega)
      have u2 : (xwr M 310 0 0) (310 + 1) t = M 311 t := xwr_n _ (by omega)
      have u3 : (xwr M 310 0 0) (310 + 2) s = M 312 s := xwr_n _ (by omega)
      have u4 : (xwr M 310 0 0) (310 + 2) t = M 312 t := xwr_n _ (by omega)
      rw [if_neg (not_not_intro h2), xA_p (by omega), xA_p (by omega), show 1 + 267 + 34 + 2 * s = 302 + 2 * s by omega, show 1 + 267 + 34 + 2 * t = 302 + 2 * t by omega]
      unfold xSl at T1 T2
      rcases T1 with ⟨p1, p2⟩ | ⟨p1, p2, p3, p4, p5, p6⟩
      · rw [if_pos p1]
        refine xC3_k S ?_ K
        unfold fQ_paste
        rw [qSlot_s, qSlot_s, u1]
        simp only [if10]
        rw [if_neg (not_not_intro h1), if_neg (not_not_intro h2), xA_p (by omega), if_pos p2]
      · rw [if_neg (show ¬ M (302 + 2 * s) 0 = 0 by omega)]
        rcases T2 with ⟨q1, q2⟩ | ⟨q1, q2, q3, q4, q5, q6⟩
        · rw [if_pos q1]
          refine xC3_k S ?_ K
          unfold fQ_paste
          rw [qSlot_s, qSlot_s, u1, u2]
          simp only [if10]
          rw [if_neg (not_not_intro h1), if_neg (not_not_intro h2), xA_p (by omega), if_neg (by omega), xA_p (by omega), if_pos q2]
        · rw [if_neg (show ¬ M (302 + 2 * t) 0 = 0 by omega), p2, q2]
          by_cases h3 : M 311 s = M 311 t
          · rw [if_pos h3]
            have o1 : fSlot_holds (302 + 2 * s) a n M = if 0 ≤ a ∧ 0 ≤ n ∧ a + n ≤ M 312 s then 1 else 0 := by
              unfold fSlot_holds
              rw [p4]
              by_cases x : 0 ≤ a ∧ a ≤ M 312 s
              · rw [xw32_id (x := M 312 s - a) (by omega) (by omega)]
                (repeat' split) <;> first | rfl | omega
              · (repeat' split) <;> first | rfl | omega
            have o2 : fSlot_holds (302 + 2 * t) b n M = if 0 ≤ b ∧ 0 ≤ n ∧ b + n ≤ M 312 t then 1 else 0 := by
              unfold fSlot_holds
              rw [q4]
              by_cases x : 0 ≤ b ∧ b ≤ M 312 t
              · rw [xw32_id (x := M 312 t - b) (by omega) (by omega)]
                (repeat' split) <;> first | rfl | omega
              · (repeat' split) <;> first | rfl | omega
            rw [o1, o2]
            simp only [if10]
            by_cases h4 : (0 ≤ a ∧ 0 ≤ n ∧ a + n ≤ M 312 s) ∧ (0 ≤ b ∧ 0 ≤ n ∧ b + n ≤ M 312 t)
            · rw [if_neg (not_not_intro h4.1), if_neg (not_not_intro h4.2), xA_p (by omega)]
              obtain ⟨m2, e2, f2, g2⟩ := paste1_L (s := s) (a := a) (t := t) (b := b) (n := n) h1.1 (by omega) h4.1.1 (by omega) n.toNat 20001 0 (xwr (xcpy M (302 + 2 * s + 1) a (302 + 2 * t + 1) b n) 310 0 0) (by omega) (by omega)
              obtain ⟨⟨r, m3⟩, e3, er, f3, g3⟩ := paste2_L (t := t) (b := b) (n := n) h2.1 (by omega) h4.2.1 (by omega) n.toNat 20001 0 m2 (by omega) (by omega)
              have er : r = 0 := er
              subst er
              have f2' : ∀ x : Int, x ≠ 314 → x ≠ 310 → x ≠ 303 + 2 * t → m2 x = M x := fun x x1 x2 x3 => by rw [f2 x (by omega), xwr_a _ x2, xcpy_a _ (by omega)]
              have f3' : ∀ x : Int, x ≠ 313 → m3 x = m2 x := fun x x1 => f3 x (by omega)
              refine ⟨0, _, m3, rfl, xcpy_a _ (by omega), ?_, by rw [f3' 0 (by omega), f2' 0 (by omega) (by omega) (by omega)], ?_⟩
              · unfold fQ_paste
                have u1 : (xwr (xcpy M (302 + 2 * s + 1) a (302 + 2 * t + 1) b n) 310 0 0) (310 + 1) s = M 311 s := by rw [xwr_n _ (by omega), xcpy_a _ (by omega)]; rfl
                have u2 : (xwr (xcpy M (302 + 2 * s + 1) a (302 + 2 * t + 1) b n) 310 0 0) (310 + 1) t = M 311 t := by rw [xwr_n _ (by omega), xcpy_a _ (by omega)]; rfl
                have u3 : (xwr (xcpy M (302 + 2 * s + 1) a (302 + 2 * t + 1) b n) 310 0 0) (310 + 2) s = M 312 s := by rw [xwr_n _ (by omega), xcpy_a _ (by omega)]; rfl
                have u4 : (xwr (xcpy M (302 + 2 * s + 1) a (302 + 2 * t + 1) b n) 310 0 0) (310 + 2) t = M 312 t := by rw [xwr_n _ (by omega), xcpy_a _ (by omega)]; rfl
                rw [qSlot_s, qSlot_s, u1, u2, u3, u4, xw64_id (x := a + n) (by omega) (by omega), xw64_id (x := b + n) (by omega) (by omega)]
                simp only [if10]
                rw [if_neg (not_not_intro h1), if_neg (not_not_intro h2), xA_p (by omega), if_neg (by omega), xA_p (by omega), if_neg (by omega), xA_p (by omega), xA_p (by omega), if_pos h3, if_neg (show ¬ a < 0 by omega), if_neg (show ¬ b < 0 by omega), if_neg (show ¬ n < 0 by omega), xA_p (by omega), if_neg (by rw [xcmp_gt]; omega), xA_p (by omega), if_neg (by rw [xcmp_gt]; omega)]
                exact e2.trans e3
              · refine Sim_row S (t := t) (b := b) (n := n) (fun i => M (303 + 2 * s) (i - b + a)) h2.1 (by omega) h4.2.1 (by omega) (fun x hx x1 x2 => ?_) (fun j hj => ?_) (fun j => ?_) (fun j => ?_)
                · rw [f3' x x2, f2' x (by unfold xPer at hx; omega) (by unfold xPer at hx; omega) x1]
                · rw [f3' 310 (by omega), f2 310 (by omega), xwr_n _ (by omega), xcpy_a _ (by omega)]
                · rw [f3' _ (by omega), f2 _ (by omega), xwr_a _ (by omega), show 302 + 2 * t + 1 = 303 + 2 * t by omega, xcpy_at, show 302 + 2 * s + 1 = 303 + 2 * s by omega]
                  by_cases x : b ≤ j ∧ j < b + n
                  · rw [if_pos ⟨rfl, x⟩, if_pos x]
                  · rw [if_neg (fun y => x y.2), if_neg x]
                · rw [show m3 313 j = _ from g3 j, f2' 313 (by omega) (by omega) (by omega)]
                  by_cases x : 60 * t + b ≤ j ∧ j < 60 * t + b + n
                  · rw [if_pos (by omega), if_pos x, g2, if_pos (by omega), xwr_n _ (by omega), xcpy_a _ (by omega)]
                    show _ = M (303 + 2 * s) (j - 60 * t - b + a)
                    rw [p6 (j - 60 * t - b + a) (by omega) (by omega)]
                    congr 1
                    omega
                  · rw [if_neg (by omega), if_neg x]
            · have dd : (if ¬ (0 ≤ a ∧ 0 ≤ n ∧ a + n ≤ M 312 s) then some ((-7 : Int), M) else if ¬ (0 ≤ b ∧ 0 ≤ n ∧ b + n ≤ M 312 t) then some (-7, M) else xA (0 ≤ n ∧ 0 ≤ a ∧ 0 ≤ b ∧ a + n ≤ 60 ∧ b + n ≤ 60) (some (0, xcpy M (302 + 2 * s + 1) a (302 + 2 * t + 1) b n))) = some (-7, M) := by
                by_cases x : 0 ≤ a ∧ 0 ≤ n ∧ a + n ≤ M 312 s
                · rw [if_neg (not_not_intro x), if_pos (fun y => h4 ⟨x, y⟩)]
                · rw [if_pos x]
              rw [dd]
              refine xC3_k S ?_ K
              unfold fQ_paste
              rw [qSlot_s, qSlot_s, u1, u2, u3, u4, xw64_id (x := a + n) (by omega) (by omega), xw64_id (x := b + n) (by omega) (by omega)]
              simp only [if10, xcmp_gt]
              rw [if_neg (not_not_intro h1), if_neg (not_not_intro h2), xA_p (by omega), if_neg (by omega), xA_p (by omega), if_neg (by omega), xA_p (by omega), xA_p (by omega), if_pos h3]
              by_cases y1 : a < 0
              · rw [if_pos y1]
              · rw [if_neg y1]
                by_cases y2 : b < 0
                · rw [if_pos y2]
                · rw [if_neg y2]
                  by_cases y3 : n < 0
                  · rw [if_pos y3]
                  · rw [if_neg y3, xA_p (by omega)]
                    by_cases y4 : M 312 s < a + n
                    · rw [if_pos y4]
                    · rw [if_neg y4, xA_p (by omega), if_pos (show M 312 t < b + n by omega)]
          · rw [if_neg h3]
            refine xC3_k S ?_ K
            unfold fQ_paste
            rw [qSlot_s, qSlot_s, u1, u2]
            simp only [if10]
            rw [if_neg (not_not_intro h1), if_neg (not_not_intro h2), xA_p (by omega), if_neg (by omega), xA_p (by omega), if_neg (by omega), xA_p (by omega), xA_p (by omega), if_neg h3]
    · rw [if_pos h2]
      refine xC3_k S ?_ K
      unfold fQ_paste
      rw [qSlot_s, qSlot_s]
      simp only [if10]
      rw [if_neg (not_not_intro h1), if_pos h2]
  · rw [if_pos h1]
    refine xC3_k S ?_ K
    unfold fQ_paste
    rw [qSlot_s]
    simp only [if10]
    rw [if_pos h1]
end
