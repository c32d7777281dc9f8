/-! the whole tape, on both sides -/
noncomputable section
theorem tape_L {f : Int → Int} {L : Int} : ∀ (n g g' : Nat) (i a e k : Int) (V A B : xM), n + 2 ≤ g → n + 1 < g' → L - a ≤ n → 0 ≤ i → (k ≠ 0 → i ≤ a) → yAl f L a e k A B → yDt V A B → V 0 2 = i → ((i = 0 ∧ V 0 0 = 0) ∨ (1 ≤ i ∧ 2 ≤ V 0 0)) → ∃ (v : Int) (A' B' : xM), fReader_readTape_L33 g 2 i A = some (v, A') ∧ fQ_prison_L13 g' 310 B = yOv B' ∧ yEn f L A B A' B' v
  | _, 0, _, _, _, _, _, _, _, _, hg, _, _, _, _, _, _, _, _ => absurd hg (by omega)
  | _, _, 0, _, _, _, _, _, _, _, _, hg, _, _, _, _, _, _, _ => absurd hg (by omega)
  | n, g + 1, g' + 1, i, a, e, k, V, A, B, hg, hg', hL, i0, ia, al, D, zi, zv => by
    have r := yAl_rg al
    have a7 := al.2.1.1
    have b12 := al.2.2.1.1
    by_cases z : k = 0
    · refine ⟨1, A, B, ?_, ?_, yGa_r _, yGb_r _, Or.inr ⟨rfl, a7, b12, ?_, al.1, V, D⟩⟩
      · rw [fReader_readTape_L33, if_pos a7, if_pos a7, if_pos (show A 2 4 = 0 by rw [al.2.1.2.2.2]; exact z)]
        split <;> rfl
      · rw [fQ_prison_L13, if_neg (good_0 b12), if_pos (show B 310 8 = 0 by rw [al.2.2.1.2.2.2]; exact z)]
        rfl
      · obtain ⟨-, -, -, -, -, m, m0, -⟩ := al
        exact m0.2
    · have ae := r.2.2.2.2.1 z
      have i2 := ia z
      have hi : i < 1600 := by omega
      have c2 : A (2 + 3) 2 = i := (xPv_0 D.1 2 (by decide) (by decide)).trans zi
      have q2 : B (310 + 6) 4 = i := D.2.2.1.1.1.1.trans zi
      obtain ⟨n', rfl⟩ : ∃ n', n = n' + 1 := ⟨n - 1, by omega⟩
      obtain ⟨g1, rfl⟩ : ∃ g1, g = g1 + 1 := ⟨g - 1, by omega⟩
      obtain ⟨g2, rfl⟩ : ∃ g2, g' = g2 + 1 := ⟨g' - 1, by omega⟩
      have own6 : yOwn (310 + 6) 4 := by unfold yOwn; omega
      have next : ∀ (a' e' k' : Int) (V' A' B'' : xM), a < a' → yAl f L a' e' k' A' B'' → yDt V' (xwr A' (2 + 3) 2 (i + 1)) (xwr B'' (310 + 6) 4 (i + 1)) → V' 0 2 = i + 1 → 2 ≤ V' 0 0 → yGa A A' → yGb B B'' → ∃ (v : Int) (A3 B3 : xM), fReader_readTape_L33 (g1 + 1) 2 (i + 1) (xwr A' (2 + 3) 2 (i + 1)) = some (v, A3) ∧ fQ_prison_L13 (g2 + 1) 310 (xwr B'' (310 + 6) 4 (i + 1)) = yOv B3 ∧ yEn f L A B A3 B3 v := by
        intro a' e' k' V' A' B'' l al' D' z' p' ga gb
        obtain ⟨v, A3, B3, h1, h2, h3, h4, h5⟩ := tape_L n' (g1 + 1) (g2 + 1) (i + 1) a' e' k' V' (xwr A' (2 + 3) 2 (i + 1)) (xwr B'' (310 + 6) 4 (i + 1)) (by omega) (by omega) (by omega) (by omega) (fun _ => by omega) (yAl_o al' (fun j _ _ _ => by rw [xwr_a (a := 2 + 3) (b := 2) _ (by decide)]) (xwr_a _ (by decide)) (xwr_a _ (by decide)) (fun j _ _ => by rw [xwr_a _ (by decide)]) (xwr_a _ (by decide))) D' z' (Or.inr ⟨by omega, p'⟩)
        exact ⟨v, A3, B3, h1, h2, yGa_t (yGa_5 ga _ _) h3, yGb_t (yGb_w gb _ own6) h4, h5⟩
      have dead : ∀ (A' B' : xM) (x y : Int), yDe f L A' B' → yGa A A' → yGb B B' → ∃ (v : Int) (A3 B3 : xM), fReader_readTape_L33 (g1 + 1) 2 (i + 1) (xwr A' (2 + 3) 2 x) = some (v, A3) ∧ fQ_prison_L13 (g2 + 1) 310 (xwr B' (310 + 6) 4 y) = yOv B3 ∧ yEn f L A B A3 B3 v := fun A' B' x y d ga gb =>
        ⟨0, _, _, L33_d (yDa_5 d.2.1 _ _) _ _, L13_d (by rw [xwr_a _ (by decide)]; exact yDe_q d) _, yGa_5 ga _ _, yGb_w gb _ own6, Or.inl ⟨rfl, yDe_5 d _ _⟩⟩
      rw [fReader_readTape_L33, if_pos hi, if_pos a7, if_neg (show ¬ A 2 4 = 0 by rw [al.2.1.2.2.2]; exact z), fQ_prison_L13, if_neg (good_0 b12), if_neg (show ¬ B 310 8 = 0 by rw [al.2.2.1.2.2.2]; exact z), q2, xw32_id (x := i + 1) (by omega) (by omega)]
      rcases zv with ⟨z1, z2⟩ | ⟨z1, z2⟩
      · obtain ⟨A', B', h1, h2, h3, h4, h5⟩ := first_s al D z2
        have rl : fReader_readLine 2 A = some A' := by
          unfold fReader_readLine
          rw [if_pos (by rw [c2]; exact z1), h1, xB_s]
        rw [rl, xB_s, if_pos z1, h2, xB_s]
        unfold fQ_prison_L47
        rcases h5 with d | ⟨u, B'', h6, h7, h8⟩
        · rw [if_pos (good_1 (yDe_q d))]
          exact dead A' B' _ _ d h3 h4
        · rw [if_neg (good_0 u), h6, xB_s]
          rcases h8 with d | ⟨a', e', k', l, al', w2, w4, V', D', z', p'⟩
          · exact dead A' B'' _ _ d h3 h7
          · rw [w2, w4, xw32_id (x := 0 + 1) (by decide) (by decide), show (0 : Int) + 1 = i + 1 by omega]
            exact next a' e' k' V' A' B'' l al' (by rw [show i + 1 = 1 by omega]; exact D') (by omega) p' h3 h7
      · obtain ⟨A', B', h1, h2, h3, h4, h5⟩ := line_s al D z2 (by omega)
        rw [h1, xB_s, if_neg (show ¬ i = 0 by omega), h2, xB_s]
        rcases h5 with d | ⟨u, B'', h6, h7, h8⟩
        · rw [if_pos (good_1 (yDe_q d))]
          exact dead A' B' _ _ d h3 h4
        · rw [if_neg (good_0 u), h6, xB_s]
          rcases h8 with d | ⟨a', e', k', V', l, al', D', z', p'⟩
          · exact dead A' B'' _ _ d h3 h7
          · have w2 : A' (2 + 3) 2 = i := (xPv_0 D'.1 2 (by decide) (by decide)).trans (z'.trans zi)
            have w4 : B'' (310 + 6) 4 = i := D'.2.2.1.1.1.1.trans (z'.trans zi)
            rw [w2, w4, xw32_id (x := i + 1) (by omega) (by omega)]
            exact next a' e' k' (xwr V' 0 2 (i + 1)) A' B'' l al' (line_up D' p' (by omega) (by omega)) (xwr_s _ _ _ _) (by rw [xwr_n _ (by decide)]; exact p') h3 h7
/-! an empty prison -/
def yV0 (m : xM) : xM := fun a i => if a = 6 then 9 else if a = 10 then -1 else if 7 ≤ a ∧ a ≤ 9 then m (2 + 3 + a) i else 0
theorem xwr_z {m : xM} {a k i : Int} (h : i ≠ k → m a i = 0) : xwr m a k 0 a i = 0 := by
  by_cases e : i = k
  · rw [e, xwr_s]
  · rw [xwr_n _ (fun x => e x.2)]
    exact h e
theorem clear_c (m : xM) : xP (fPrison_clear (2 + 3) m) (fun m' => xPv m' (2 + 3) (yV0 m) ∧ (∀ x : Int, (x < 5 ∨ 15 < x) → m' x = m x) ∧ m' 13 = m 13) := by
  unfold fPrison_clear
  have h0 : ∀ x : Int, x ≠ 2 + 3 → (xwr (xwr (xwr (xwr (xwr (xwr (xwr (xwr m (2 + 3) 0 0) (2 + 3) 1 0) (2 + 3) 2 0) (2 + 3) 3 0) (2 + 3) 4 0) (2 + 3) 5 0) (2 + 3) 6 0) (2 + 3) 7 0) x = m x := fun x hx => by
    rw [xwr_a _ hx, xwr_a _ hx, xwr_a _ hx, xwr_a _ hx, xwr_a _ hx, xwr_a _ hx, xwr_a _ hx, xwr_a _ hx]
  have z0 : ∀ i : Int, 0 ≤ i → i < 8 → (xwr (xwr (xwr (xwr (xwr (xwr (xwr (xwr m (2 + 3) 0 0) (2 + 3) 1 0) (2 + 3) 2 0) (2 + 3) 3 0) (2 + 3) 4 0) (2 + 3) 5 0) (2 + 3) 6 0) (2 + 3) 7 0) (2 + 3) i = 0 := fun i i0 i1 => by
    exact xwr_z (fun n7 => xwr_z (fun n6 => xwr_z (fun n5 => xwr_z (fun n4 => xwr_z (fun n3 => xwr_z (fun n2 => xwr_z (fun n1 => xwr_z (fun n0 => absurd i0 (by omega)))))))))
  generalize xwr (xwr (xwr (xwr (xwr (xwr (xwr (xwr m (2 + 3) 0 0) (2 + 3) 1 0) (2 + 3) 2 0) (2 + 3) 3 0) (2 + 3) 4 0) (2 + 3) 5 0) (2 + 3) 6 0) (2 + 3) 7 0 = k at *
  refine xP_B (fill_k21_s (2 + 3 + 1) 0 k) ?_
  rintro m1 ⟨f1, t1⟩
  refine xP_B (fill_k21_s (2 + 3 + 2) 0 m1) ?_
  rintro m2 ⟨f2, t2⟩
  refine xP_B (fill_k21_s (2 + 3 + 3) 0 m2) ?_
  rintro m3 ⟨f3, t3⟩
  refine xP_B (fill_k21_s (2 + 3 + 4) 0 m3) ?_
  rintro m4 ⟨f4, t4⟩
  refine xP_B (fill_k21_s (2 + 3 + 5) 0 m4) ?_
  rintro m5 ⟨f5, t5⟩
  refine xP_B (fill_k22_s (2 + 3 + 6) 9 m5) ?_
  rintro m6 ⟨f6, t6⟩
  refine xP_B (fill_k23_s (2 + 3 + 10) (-1) m6) ?_
  rintro m7 ⟨f7, t7⟩
  refine xP_some ⟨fun a i ha => ?_, fun x hx => ?_, ?_⟩
  · unfold xvd at ha
    unfold yV0
    obtain ⟨i0, ha⟩ := ha
    have hc : a = 0 ∨ a = 1 ∨ a = 2 ∨ a = 3 ∨ a = 4 ∨ a = 5 ∨ a = 6 ∨ (7 ≤ a ∧ a ≤ 9) ∨ a = 10 := by omega
    rcases hc with rfl | rfl | rfl | rfl | rfl | rfl | rfl | hc | rfl
    · rw [f7 _ (by omega), f6 _ (by omega), f5 _ (by omega), f4 _ (by omega), f3 _ (by omega), f2 _ (by omega), f1 _ (by omega), if_neg (by decide), if_neg (by decide), if_neg (by decide)]
      exact z0 i i0 (by omega)
    · rw [f7 _ (by omega), f6 _ (by omega), f5 _ (by omega), f4 _ (by omega), f3 _ (by omega), f2 _ (by omega), t1, if_pos (by omega), if_neg (by decide), if_neg (by decide), if_neg (by decide)]
    · rw [f7 _ (by omega), f6 _ (by omega), f5 _ (by omega), f4 _ (by omega), f3 _ (by omega), t2, if_pos (by omega), if_neg (by decide), if_neg (by decide), if_neg (by decide)]
    · rw [f7 _ (by omega), f6 _ (by omega), f5 _ (by omega), f4 _ (by omega), t3, if_pos (by omega), if_neg (by decide), if_neg (by decide), if_neg (by decide)]
    · rw [f7 _ (by omega), f6 _ (by omega), f5 _ (by omega), t4, if_pos (by omega), if_neg (by decide), if_neg (by decide), if_neg (by decide)]
    · rw [f7 _ (by omega), f6 _ (by omega), t5, if_pos (by omega), if_neg (by decide), if_neg (by decide), if_neg (by decide)]
    · rw [f7 _ (by omega), t6, if_pos (by omega), if_pos rfl]
    · rw [f7 _ (by omega), f6 _ (by omega), f5 _ (by omega), f4 _ (by omega), f3 _ (by omega), f2 _ (by omega), f1 _ (by omega), h0 _ (by omega), if_neg (by omega), if_neg (by omega), if_pos hc]
    · rw [t7, if_pos (by omega), if_neg (by decide), if_pos rfl]
  · rw [f7 _ (by omega), f6 _ (by omega), f5 _ (by omega), f4 _ (by omega), f3 _ (by omega), f2 _ (by omega), f1 _ (by omega), h0 _ (by omega)]
  · rw [f7 _ (by omega), f6 _ (by omega), f5 _ (by omega), f4 _ (by omega), f3 _ (by omega), f2 _ (by omega), f1 _ (by omega), h0 _ (by omega)]
theorem yV0_E {m : xM} (h : yB9 m) : xWE (yV0 m) ∧ (∀ i : Int, yV0 m 0 i = 0) := by
  have z0 : ∀ i : Int, yV0 m 0 i = 0 := fun i => by unfold yV0; rw [if_neg (by decide), if_neg (by decide), if_neg (by decide)]
  have z1 : ∀ i : Int, yV0 m 1 i = 0 := fun i => by unfold yV0; rw [if_neg (by decide), if_neg (by decide), if_neg (by decide)]
  have z2 : ∀ i : Int, yV0 m 2 i = 0 := fun i => by unfold yV0; rw [if_neg (by decide), if_neg (by decide), if_neg (by decide)]
  have z3 : ∀ i : Int, yV0 m 3 i = 0 := fun i => by unfold yV0; rw [if_neg (by decide), if_neg (by decide), if_neg (by decide)]
  have z5 : ∀ i : Int, yV0 m 5 i = 0 := fun i => by unfold yV0; rw [if_neg (by decide), if_neg (by decide), if_neg (by decide)]
  have z6 : ∀ i : Int, yV0 m 6 i = 9 := fun i => by unfold yV0; rw [if_pos rfl]
  have z8 : ∀ i : Int, yV0 m 8 i = m 13 i := fun i => by unfold yV0; rw [if_neg (by decide), if_neg (by decide), if_pos (by decide)]; rfl
  have z10 : ∀ i : Int, yV0 m 10 i = -1 := fun i => by unfold yV0; rw [if_neg (by decide), if_pos rfl]
  refine ⟨?_, z0⟩
  unfold xWE xWF
  rw [z0 0, z0 1, z0 2, z0 3, z0 4, z0 5, z0 6, z0 7]
  exact ⟨⟨by decide, by decide, Or.inl rfl, by decide, fun c _ _ => by rw [z1, z2, z3, z5]; exact ⟨by decide, by decide, fun h => absurd h (by decide), by decide, by constructor <;> decide⟩, fun b _ _ => by rw [z6]; decide, fun i i0 i1 => by rw [z8]; exact h i i0 i1, by constructor <;> decide, by constructor <;> decide, fun t _ _ => by rw [z10]; decide⟩, Or.inl rfl, fun h => absurd h (by decide), fun _ => rfl, fun h => absurd h (by decide), ⟨fun _ => rfl, fun _ => rfl⟩, by decide, by decide, by decide, by decide, by decide, fun c t _ _ _ _ hb => (by rw [z5, xbt_0] at hb; exact absurd hb (by decide)), fun t _ _ => Or.inr (Or.inl (z10 t))⟩
theorem clears91_L : ∀ (n g i : Nat) (m : xM), n < g → i + n = 24 → xP (fQ_clears_L91 g 310 (i : Int) m) (fun m' => xF 321 321 m m' ∧ ∀ j : Int, m' 321 j = if 96 + (i : Int) ≤ j ∧ j < 120 then -1 else m 321 j)
  | _, 0, _, _, hg, _ => absurd hg (Nat.not_lt_zero _)
  | 0, g + 1, i, m, _, hi => by
    rw [fQ_clears_L91, if_neg (by omega)]
    exact xP_some ⟨xF_rfl _ _ _, fun j => by rw [if_neg (by omega)]⟩
  | n + 1, g + 1, i, m, hg, hi => by
    rw [fQ_clears_L91, if_pos (by omega), xw32_id (x := 96 + (i : Int)) (by omega) (by omega), xA_p (by omega), xw32_id (x := (i : Int) + 1) (by omega) (by omega)]
    refine xP_mono (clears91_L n g (i + 1) _ (by omega) (by omega)) ?_
    rintro m' ⟨hF, hm⟩
    refine ⟨xF_tr (xwr_F (xF_rfl _ _ _) (by omega) (by omega)) hF, fun j => ?_⟩
    rw [hm j, xwr_at]
    (repeat' split) <;> first | rfl | (exfalso; omega)
theorem clears41_L {Q : xM → Prop} {K : Int → Int → xM → Option xM} {c : Int} (c0 : 0 ≤ c) (c1 : c < 9) : ∀ (n g i : Nat) (m : xM), n < g → i + n = 6 → (∀ m' : xM, xF 318 318 m m' → (∀ j : Int, m' 318 j = if 216 + 6 * c + (i : Int) ≤ j ∧ j < 222 + 6 * c then (if j = 219 + 6 * c ∨ j = 220 + 6 * c then 9 else 0) else m 318 j) → xP (K 310 (c + 1) m') Q) → xP (fQ_clears_L41 K g 310 c (i : Int) m) Q
  | _, 0, _, _, hg, _, _ => absurd hg (Nat.not_lt_zero _)
  | 0, g + 1, i, m, _, hi, hK => by
    rw [fQ_clears_L41, if_neg (by omega), xw32_id (by omega) (by omega)]
    exact hK m (xF_rfl _ _ _) (fun j => by rw [if_neg (by omega)])
  | n + 1, g + 1, i, m, hg, hi, hK => by
    have next : ∀ v : Int, v = (if (i : Int) = 3 ∨ (i : Int) = 4 then 9 else 0) → xP (fQ_clears_L41 K g 310 c ((i : Int) + 1) (xwr m (310 + 8) (216 + 6 * c + (i : Int)) v)) Q := fun v hv => by
      refine clears41_L c0 c1 n g (i + 1) _ (by omega) (by omega) (fun m' hF hm => hK m' (xF_tr (xwr_F (xF_rfl _ _ _) (by omega) (by omega)) hF) (fun j => ?_))
      rw [hm j, xwr_at, hv]
      (repeat' split) <;> first | rfl | (exfalso; omega)
    rw [fQ_clears_L41, if_pos (by omega), xw32_id (x := 36 + c) (by omega) (by omega), xw32_id (x := 6 * (36 + c)) (by omega) (by omega), xw32_id (x := 6 * (36 + c) + (i : Int)) (by omega) (by omega), xw32_id (x := (i : Int) + 1) (by omega) (by omega), xA_p (by omega), xA_p (by omega), show 6 * (36 + c) + (i : Int) = 216 + 6 * c + (i : Int) by omega]
    by_cases e3 : (i : Int) = 3
    · rw [if_pos e3]
      exact next 9 (by rw [if_pos (Or.inl e3)])
    · rw [if_neg e3]
      by_cases e4 : (i : Int) = 4
      · rw [if_pos e4]
        exact next 9 (by rw [if_pos (Or.inr e4)])
      · rw [if_neg e4]
        exact next 0 (by rw [if_neg (fun x => x.elim e3 e4)])
theorem clears33_L : ∀ (n g i : Nat) (m : xM), n < g → i + n = 9 → xP (fQ_clears_L33 g 310 (i : Int) m) (fun m' => (∀ x : Int, x ≠ 318 → x ≠ 321 → m' x = m x) ∧ (∀ j : Int, m' 318 j = if 216 + 6 * (i : Int) ≤ j ∧ j < 270 then (if j % 6 = 3 ∨ j % 6 = 4 then 9 else 0) else m 318 j) ∧ ∀ j : Int, m' 321 j = if 96 ≤ j ∧ j < 120 then -1 else m 321 j)
  | _, 0, _, _, hg, _ => absurd hg (Nat.not_lt_zero _)
  | 0, g + 1, i, m, _, hi => by
    rw [fQ_clears_L33, if_neg (by omega)]
    refine xP_mono (clears91_L 24 20001 0 m (by omega) rfl) ?_
    rintro m' ⟨hF, hm⟩
    exact ⟨fun x _ h => hF x (by omega), fun j => by rw [hF 318 (by omega), if_neg (by omega)], fun j => by rw [hm j]; rfl⟩
  | n + 1, g + 1, i, m, hg, hi => by
    rw [fQ_clears_L33, if_pos (by omega)]
    refine clears41_L (by omega) (by omega) 6 20001 0 m (by omega) rfl (fun m1 f1 t1 => ?_)
    refine xP_mono (clears33_L n g (i + 1) m1 (by omega) (by omega)) ?_
    rintro m' ⟨h1, h2, h3⟩
    refine ⟨fun x a b => by rw [h1 x a b, f1 x (by omega)], fun j => ?_, fun j => by rw [h3 j, f1 321 (by omega)]⟩
    rw [h2 j, t1 j]
    (repeat' split) <;> first | rfl | (exfalso; omega)
theorem clears9_L : ∀ (n g i : Nat) (m : xM), n < g → i + n = 7 → xP (fQ_clears_L9 g 310 (i : Int) m) (fun m' => (∀ x : Int, x ≠ 317 → x ≠ 318 → x ≠ 321 → m' x = m x) ∧ (∀ j : Int, m' 317 j = if 28 + (i : Int) ≤ j ∧ j < 35 then 0 else m 317 j) ∧ (∀ j : Int, m' 318 j = if 216 ≤ j ∧ j < 270 then (if j % 6 = 3 ∨ j % 6 = 4 then 9 else 0) else m 318 j) ∧ ∀ j : Int, m' 321 j = if 96 ≤ j ∧ j < 120 then -1 else m 321 j)
  | _, 0, _, _, hg, _ => absurd hg (Nat.not_lt_zero _)
  | 0, g + 1, i, m, _, hi => by
    rw [fQ_clears_L9, if_neg (by omega)]
    refine xP_mono (clears33_L 9 20001 0 m (by omega) rfl) ?_
    rintro m' ⟨h1, h2, h3⟩
    exact ⟨fun x _ a b => h1 x a b, fun j => by rw [h1 317 (by decide) (by decide), if_neg (by omega)], fun j => by rw [h2 j]; rfl, h3⟩
  | n + 1, g + 1, i, m, hg, hi => by
    rw [fQ_clears_L9, if_pos (by omega), xw32_id (x := 28 + (i : Int)) (by omega) (by omega), xA_p (by omega), xw32_id (x := (i : Int) + 1) (by omega) (by omega)]
    refine xP_mono (clears9_L n g (i + 1) _ (by omega) (by omega)) ?_
    rintro m' ⟨h1, h2, h3, h4⟩
    refine ⟨fun x a b c => by rw [h1 x a b c, xwr_a (a := 310 + 7) _ a], fun j => ?_, fun j => by rw [h3 j, xwr_a _ (by decide)], fun j => by rw [h4 j, xwr_a _ (by decide)]⟩
    rw [h2 j, xwr_at]
    (repeat' split) <;> first | rfl | (exfalso; omega)
theorem clears_q (m : xM) : xP (fQ_clears 310 m) (fun m' => (∀ x : Int, x ≠ 316 → x ≠ 317 → x ≠ 318 → x ≠ 321 → m' x = m x) ∧ (∀ j : Int, m' 316 j = if j = 4 then 0 else m 316 j) ∧ (∀ j : Int, m' 317 j = if 28 ≤ j ∧ j < 35 then 0 else m 317 j) ∧ (∀ j : Int, m' 318 j = if 216 ≤ j ∧ j < 270 then (if j % 6 = 3 ∨ j % 6 = 4 then 9 else 0) else m 318 j) ∧ ∀ j : Int, m' 321 j = if 96 ≤ j ∧ j < 120 then -1 else m 321 j) := by
  unfold fQ_clears
  refine xP_mono (clears9_L 7 20001 0 _ (by omega) rfl) ?_
  rintro m' ⟨h1, h2, h3, h4⟩
  refine ⟨fun x a b c d => by rw [h1 x b c d, xwr_a (a := 310 + 6) _ a], fun j => ?_, fun j => by rw [h2 j, xwr_a _ (by decide)]; rfl, fun j => by rw [h3 j, xwr_a _ (by decide)], fun j => by rw [h4 j, xwr_a _ (by decide)]⟩
  rw [h1 316 (by decide) (by decide) (by decide), xwr_at]
  (repeat' split) <;> first | rfl | (exfalso; omega)
theorem parse_s {f : Int → Int} {L : Int} {M B : xM} (t : yTp f L M B) (h9 : yB9 M) : ∃ (v : Int) (A' B' : xM), fReader_readTape 2 M = some (v, A') ∧ fQ_prison 310 B = yOv B' ∧ (∀ x : Int, x ≠ 2 → (x < 5 ∨ 15 < x) → A' x = M x) ∧ yB9 A' ∧ (∀ x j : Int, ¬ yOwn x j → ¬ (x = 310 ∧ j = 0) → B' x j = B x j) ∧ ((v = 0 ∧ yDe f L A' B') ∨ (v = 1 ∧ A' 2 7 = 0 ∧ B' 310 12 = 0 ∧ A' 2 8 = -1 ∧ yTp f L A' B' ∧ ∃ V' : xM, yDt V' A' B')) := by
  have a0 : ∀ x : Int, x ≠ 2 → (xwr (xwr (xwr (xwr M 2 7 0) 2 8 (-1)) 2 3 0) 2 6 0) x = M x := fun x hx => by rw [xwr_a _ hx, xwr_a _ hx, xwr_a _ hx, xwr_a _ hx]
  have a7 : (xwr (xwr (xwr (xwr M 2 7 0) 2 8 (-1)) 2 3 0) 2 6 0) 2 7 = 0 := by rw [xwr_n _ (by decide), xwr_n _ (by decide), xwr_n _ (by decide), xwr_s]
  have a8 : (xwr (xwr (xwr (xwr M 2 7 0) 2 8 (-1)) 2 3 0) 2 6 0) 2 8 = -1 := by rw [xwr_n _ (by decide), xwr_n _ (by decide), xwr_s]
  have a3 : (xwr (xwr (xwr (xwr M 2 7 0) 2 8 (-1)) 2 3 0) 2 6 0) 2 3 = 0 := by rw [xwr_n _ (by decide), xwr_s]
  have a6 : (xwr (xwr (xwr (xwr M 2 7 0) 2 8 (-1)) 2 3 0) 2 6 0) 2 6 = 0 := xwr_s _ _ _ _
  unfold fReader_readTape fQ_prison
  generalize xwr (xwr (xwr (xwr M 2 7 0) 2 8 (-1)) 2 3 0) 2 6 0 = A0 at *
  have h90 : yB9 A0 := by unfold yB9 at h9 ⊢; rw [a0 13 (by decide)]; exact h9
  obtain ⟨A1, e1, v1, f1, g1⟩ := clear_c A0
  obtain ⟨B1, e2, b1, b6, b7, b8, b11⟩ := clears_q (xwr B 310 0 0)
  have z2 : A1 2 = A0 2 := f1 2 (by omega)
  have tA : ∀ x : Int, x ≠ 2 → (x < 5 ∨ 15 < x) → A1 x = M x := fun x x2 x5 => by rw [f1 x x5, a0 x x2]
  have E0 := yV0_E h90
  have bo : ∀ j : Int, (j < 7 ∨ 13 < j) → j ≠ 0 → B1 310 j = B 310 j := fun j _ j0 => by rw [b1 310 (by decide) (by decide) (by decide) (by decide), xwr_n _ (by omega)]
  have D1 : ∀ B2 : xM, (∀ x : Int, x ≠ 310 → B2 x = B1 x) → yDt (yV0 A0) A1 B2 := fun B2 hb => by
    refine ⟨v1, E0.1, ⟨⟨⟨?_, ?_, ?_, ?_, ?_, ?_⟩, fun c c0 c1 => ?_, fun c h c0 c1 h0 h1 => ?_, fun c c0 c1 => ?_, fun k k0 k1 => ?_, fun h h0 h1 => ?_⟩, ?_⟩, ?_, ?_, ?_, ?_⟩
    · rw [hb _ (by decide), E0.2]; exact (b6 4).trans (if_pos rfl)
    · rw [hb _ (by decide), E0.2]; exact (b7 28).trans (if_pos (by decide))
    · rw [hb _ (by decide), E0.2]; exact (b7 29).trans (if_pos (by decide))
    · rw [hb _ (by decide), E0.2]; exact (b7 32).trans (if_pos (by decide))
    · rw [hb _ (by decide), E0.2]; exact (b7 33).trans (if_pos (by decide))
    · rw [hb _ (by decide), E0.2]; exact (b7 34).trans (if_pos (by decide))
    · rw [hb _ (by decide), E0.2, xbt_0, if_neg (show ¬ false = true by decide)]
      have w : ∀ j : Int, B1 (310 + 8) j = if 216 ≤ j ∧ j < 270 then (if j % 6 = 3 ∨ j % 6 = 4 then 9 else 0) else (xwr B 310 0 0) 318 j := b8
      unfold yV0
      refine ⟨?_, ?_, ?_, ?_, ?_, ?_⟩ <;> rw [w, if_pos (by omega)]
      · rw [if_neg (by omega), if_neg (by decide), if_neg (by decide), if_neg (by decide)]
      · rw [if_neg (by omega), if_neg (by decide), if_neg (by decide), if_neg (by decide)]
      · rw [if_neg (by omega), if_neg (by decide), if_neg (by decide), if_neg (by decide)]
      · rw [if_pos (by omega), if_pos rfl]
      · rw [if_pos (by omega), if_pos rfl]
      · rw [if_neg (by omega)]
    · have z5 : yV0 A0 5 c = 0 := by unfold yV0; rw [if_neg (by decide), if_neg (by decide), if_neg (by decide)]
      rw [z5, E0.2, xbt_0]
      exact ⟨fun h => (by cases h), fun ⟨k, x0, x1, _⟩ => by omega⟩
    · have z4 : yV0 A0 4 c = 0 := by unfold yV0; rw [if_neg (by decide), if_neg (by decide), if_neg (by decide)]
      rw [z4, E0.2]; rfl
    · rw [E0.2] at k1
      omega
    · rw [hb _ (by decide)]
      have z10 : yV0 A0 10 h = -1 := by unfold yV0; rw [if_neg (by decide), if_pos rfl]
      rw [z10]
      exact (b11 (24 * 4 + h)).trans (if_pos (by omega))
    · rw [hb _ (by decide), E0.2]; exact (b7 31).trans (if_pos (by decide))
    · rw [hb _ (by decide), z2, a6]; exact ((b7 30).trans (if_pos (by decide))).symm
    · rw [z2, a6]; decide
    · rw [z2, a6, E0.2]; decide
    · intro c _ _
      rw [E0.2, xbt_0]
  have c0 : ∀ x : Int, x ≠ 310 → (xwr (xwr (xwr B1 310 12 0) 310 13 (-1)) 310 7 0) x = B1 x := fun x hx => by rw [xwr_a _ hx, xwr_a _ hx, xwr_a _ hx]
  have c12 : (xwr (xwr (xwr B1 310 12 0) 310 13 (-1)) 310 7 0) 310 12 = 0 := by rw [xwr_n _ (by decide), xwr_n _ (by decide), xwr_s]
  have c7 : (xwr (xwr (xwr B1 310 12 0) 310 13 (-1)) 310 7 0) 310 7 = 0 := xwr_s _ _ _ _
  have cj : ∀ j : Int, (j < 7 ∨ 13 < j) → (xwr (xwr (xwr B1 310 12 0) 310 13 (-1)) 310 7 0) 310 j = B1 310 j := fun j hj => by rw [xwr_n _ (by omega), xwr_n _ (by omega), xwr_n _ (by omega)]
  rw [e1, xB_s, e2, xB_s]
  unfold fQ_begins
  generalize xwr (xwr (xwr B1 310 12 0) 310 13 (-1)) 310 7 0 = B2 at *
  obtain ⟨t1, t2, t3, t4, t5, t6⟩ := t
  have q315 : ∀ j : Int, 0 ≤ j → j < 1600 → B2 315 j = f j := fun j j0 j1 => by rw [c0 315 (by decide), b1 315 (by decide) (by decide) (by decide) (by decide), xwr_a _ (by decide)]; exact t4 j j0 j1
  have q6 : B2 310 6 = L := by rw [cj 6 (by decide), bo 6 (by decide) (by decide)]; exact t3
  obtain ⟨A3, e3, a, e, k, p1, p2, p3, p4, p5⟩ := adv_c (f := f) (L := L) (n := 0) (m := A1) t6 (by rw [z2]; exact a7) (by decide) t5 (by rw [z2]; exact a3) (by rw [tA 3 (by decide) (by decide)]; exact t1) (by rw [tA 4 (by decide) (by decide)]; exact t2)
  obtain ⟨B3, e4, a', e', k', q1, q2, q3, q4, q5, q7⟩ := next_q (f := f) (L := L) (n := 0) (m := B2) t6 (by decide) t5 c7 q6 q315
  obtain ⟨u1, u2, u3⟩ := yTk_1 q1 p1
  subst u1
  subst u2
  subst u3
  have rg := yTk_rg p1
  have al : yAl f L a' e' k' A3 B3 := ⟨⟨by rw [p4 3 (by decide), tA 3 (by decide) (by decide)]; exact t1, by rw [p4 4 (by decide), tA 4 (by decide) (by decide)]; exact t2, by rw [q7 6 (by decide)]; exact q6, fun j j0 j1 => by rw [q5 315 (by decide)]; exact q315 j j0 j1, t5, t6⟩, ⟨by rw [p5 7 (by decide), z2]; exact a7, p2⟩, ⟨by rw [q7 12 (by decide)]; exact c12, q2⟩, fun x => ⟨p3 x, q3 x⟩, q4, 0, ⟨by decide, by rw [p5 8 (by decide), z2]; exact a8⟩, p1⟩
  have D3 : yDt (yV0 A0) A3 B3 := yDt_o (D1 B2 c0) (fun x _ _ => p4 x (by omega)) (p5 6 (by decide)) (fun x _ _ => q5 x (by omega))
  obtain ⟨v, A', B', h1, h2, ⟨h3, h3'⟩, h4, h5⟩ := tape_L (f := f) (L := L) L.toNat 20001 20001 0 a' e' k' (yV0 A0) A3 B3 (by omega) (by omega) (by omega) (by decide) (fun _ => by omega) al D3 (E0.2 2) (Or.inl ⟨rfl, E0.2 0⟩)
  rw [e3, xB_s, e4, xB_s, xB_s]
  refine ⟨v, A', B', h1, h2, fun x x2 x5 => by rw [h3 x x2 x5, p4 x x2, tA x x2 x5], h3' ?_, fun x j n1 n2 => ?_, h5⟩
  · unfold yB9 at h90 ⊢
    rw [p4 13 (by decide), g1]
    exact h90
  · rw [h4 x j n1]
    by_cases e : x = 310
    · subst e
      have hj : j < 7 ∨ 13 < j := by unfold yOwn at n1; omega
      rw [q7 j (by omega), cj j hj, bo j hj (fun z => n2 ⟨rfl, z⟩)]
    · rw [q5 x e, c0 x e]
      by_cases x6 : x = 316
      · subst x6
        rw [b6 j, if_neg (by unfold yOwn at n1; omega), xwr_a _ (by decide)]
      · by_cases x7 : x = 317
        · subst x7
          rw [b7 j, if_neg (by unfold yOwn at n1; omega), xwr_a _ (by decide)]
        · by_cases x8 : x = 318
          · subst x8
            rw [b8 j, if_neg (by unfold yOwn at n1; omega), xwr_a _ (by decide)]
          · by_cases x11 : x = 321
            · subst x11
              rw [b11 j, if_neg (by unfold yOwn at n1; omega), xwr_a _ (by decide)]
            · rw [b1 x x6 x7 x8 x11, xwr_a _ e]
end
