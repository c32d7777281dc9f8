/-! prison -/
noncomputable section
theorem Sim_3 {M m : xM} (S : Sim M) (k : ∀ a : Int, xPer a → a ≠ 2 → a ≠ 3 → a ≠ 13 → ¬ (316 ≤ a ∧ a ≤ 321) → m a = M a) (sg : ∀ w : Int, 0 ≤ w → w ≤ 3 → xSg M m w w) (t : m 3 1 = m 310 6 ∧ 0 ≤ m 3 1 ∧ m 3 1 ≤ 1600) (r : m 2 7 = m 310 14 ∧ m 2 8 = m 310 15 ∧ yB9 m) : Sim m := by
  obtain ⟨t1, t2, t3, t4, t5, t6⟩ := S
  have v16 : ∀ a i : Int, 0 ≤ a → a ≤ 10 → xVw m 16 a i = xVw M 16 a i := fun a i a0 a1 => by unfold xVw; rw [k _ (by unfold xPer; omega) (by omega) (by omega) (by omega) (by omega)]
  refine ⟨⟨t.1, t.2.1, t.2.2, ?_⟩, ⟨r.1, r.2.1, r.2.2⟩, ⟨xWE_go t3.1 v16, xQ0_V (xQ0_sg t3.2 t3.1 (sg 0 (by decide) (by decide))) v16⟩, fun j j0 j1 => ?_, fun s a b => ?_, fun hp => ?_⟩
  · rw [k 4 (by unfold xPer; omega) (by omega) (by omega) (by omega) (by omega), k 315 (by unfold xPer; omega) (by omega) (by omega) (by omega) (by omega)]
    exact t1.2.2.2
  · rw [k 267 (by unfold xPer; omega) (by omega) (by omega) (by omega) (by omega), k 322 (by unfold xPer; omega) (by omega) (by omega) (by omega) (by omega)]
    have vk : ∀ a i : Int, 0 ≤ a → a ≤ 10 → xVw m (269 + 11 * j) a i = xVw M (269 + 11 * j) a i := fun a i a0 a1 => by unfold xVw; rw [k _ (by unfold xPer; omega) (by omega) (by omega) (by omega) (by omega)]
    rcases t4 j j0 j1 with x | ⟨x, y, z, u⟩
    · exact Or.inl x
    · exact Or.inr ⟨x, y, xWE_go z vk, xQ0_V (xQ0_sg u z (sg (1 + j) (by omega) (by omega))) vk⟩
  · rw [k 311 (by unfold xPer; omega) (by omega) (by omega) (by omega) (by omega), k 312 (by unfold xPer; omega) (by omega) (by omega) (by omega) (by omega), k 313 (by unfold xPer; omega) (by omega) (by omega) (by omega) (by omega), k (302 + 2 * s) (by unfold xPer; omega) (by omega) (by omega) (by omega) (by omega), k (303 + 2 * s) (by unfold xPer; omega) (by omega) (by omega) (by omega) (by omega)]
    exact t5 s a b
  · rw [k 16 (by unfold xPer; omega) (by omega) (by omega) (by omega) (by omega)] at hp
    obtain ⟨x, y⟩ := t6 hp
    refine ⟨xLook_V (xLook_go t3.1.1 x (fun a a0 a1 a2 => k a (by unfold xPer; omega) (by omega) (by omega) (by omega) (by omega))) v16, xCs_V ?_ v16⟩
    unfold xCs at y ⊢
    rw [k (256 + 1) (by unfold xPer; omega) (by omega) (by omega) (by omega) (by omega), k (256 + 2) (by unfold xPer; omega) (by omega) (by omega) (by omega) (by omega)]
    exact y
theorem own_sg {M m : xM} (h : ∀ x j : Int, ¬ yOwn x j → ¬ (x = 310 ∧ j = 0) → m x j = M x j) {w : Int} (w0 : 0 ≤ w) (w1 : w ≤ 3) : xSg M m w w := by
  refine ⟨h _ _ (by unfold yOwn; omega) (by omega), fun i i0 i1 => h _ _ (by unfold yOwn; omega) (by omega), fun i i0 i1 => h _ _ (by unfold yOwn; omega) (by omega), fun i i0 i1 => h _ _ (by unfold yOwn; omega) (by omega), fun i i0 i1 => h _ _ (by unfold yOwn; omega) (by omega), fun i i0 i1 => h _ _ (by unfold yOwn; omega) (by omega)⟩
theorem sg_t {M m k : xM} {w v u : Int} (h1 : xSg M m w v) (h2 : xSg m k v u) : xSg M k w u := by
  obtain ⟨a6, a7, a8, a9, a10, a11⟩ := h1
  obtain ⟨b6, b7, b8, b9, b10, b11⟩ := h2
  exact ⟨b6.trans a6, fun i i0 i1 => (b7 i i0 i1).trans (a7 i i0 i1), fun i i0 i1 => (b8 i i0 i1).trans (a8 i i0 i1), fun i i0 i1 => (b9 i i0 i1).trans (a9 i i0 i1), fun i i0 i1 => (b10 i i0 i1).trans (a10 i i0 i1), fun i i0 i1 => (b11 i i0 i1).trans (a11 i i0 i1)⟩
theorem over_s (B : xM) : (∀ x : Int, x ≠ 310 → fQ_isOver 310 B x = B x) ∧ (∀ j : Int, j ≠ 6 → j ≠ 14 → j ≠ 15 → fQ_isOver 310 B 310 j = B 310 j) ∧ fQ_isOver 310 B 310 6 = 0 ∧ fQ_isOver 310 B 310 14 = B 310 12 ∧ fQ_isOver 310 B 310 15 = if B 310 12 = 0 then -1 else B 310 13 := by
  unfold fQ_isOver
  have e1 : (xwr B 310 6 0) 310 12 = B 310 12 := xwr_n _ (by decide)
  have e2 : (xwr (xwr B 310 6 0) 310 14 (B 310 12)) 310 12 = B 310 12 := by rw [xwr_n _ (by decide), e1]
  have e3 : (xwr (xwr B 310 6 0) 310 14 (B 310 12)) 310 13 = B 310 13 := by rw [xwr_n _ (by decide), xwr_n _ (by decide)]
  rw [e1, e2, e3]
  refine ⟨fun x hx => by rw [xwr_a _ hx, xwr_a _ hx, xwr_a _ hx], fun j j1 j2 j3 => by rw [xwr_n _ (by omega), xwr_n _ (by omega), xwr_n _ (by omega)], ?_, ?_, xwr_s _ _ _ _⟩
  · rw [xwr_n _ (by decide), xwr_n _ (by decide), xwr_s]
  · rw [xwr_n _ (by decide), xwr_s]
theorem call_2 {M : xM} (S : Sim M) : xC3 (fD_prison 1 M) (fQ_prison 310) M := by
  obtain ⟨c1, c2, c3, c4⟩ := S.1
  have h9 : yB9 M := S.2.1.2.2
  have tape : ∀ B : xM, B 310 6 = M 310 6 → B 315 = M 315 → yTp (M 4) (M 3 1) M B := fun B b6 b5 => ⟨rfl, rfl, by rw [b6]; exact c1.symm, fun j j0 j1 => by rw [b5]; exact (c4 j j0 j1).1.symm, c2, c3⟩
  obtain ⟨v, A, B, p1, p2, p3, p4, p5, p6⟩ := parse_s (tape M rfl rfl) h9
  have again : ∀ B0 : xM, B0 310 6 = M 310 6 → B0 315 = M 315 → ∃ B' : xM, fQ_prison 310 B0 = yOv B' ∧ (∀ x j : Int, ¬ yOwn x j → ¬ (x = 310 ∧ j = 0) → B' x j = B0 x j) ∧ ((v = 0 ∧ yDe (M 4) (M 3 1) A B') ∨ (v = 1 ∧ A 2 7 = 0 ∧ B' 310 12 = 0 ∧ A 2 8 = -1 ∧ yTp (M 4) (M 3 1) A B' ∧ ∃ V' : xM, yDt V' A B')) := fun B0 b6 b5 => by
    obtain ⟨v2, A2, B2, q1, q2, -, -, q5, q6⟩ := parse_s (tape B0 b6 b5) h9
    rw [p1] at q1
    have e := Option.some.inj q1
    have e1 : v = v2 := congrArg Prod.fst e
    have e2 : A = A2 := congrArg Prod.snd e
    subst e1
    subst e2
    exact ⟨B2, q2, q5, q6⟩
  unfold fD_prison
  rw [show fReader_readTape (1 + 1) M = some (v, A) from p1, xB_s]
  show xC3 (if v = 0 then some ((-4 : Int), xwr A ((1 + 1) + 1) 1 0) else _) _ _
  have g310 : (xwr A (1 + 1 + 1) 1 0) 310 = M 310 := by rw [xwr_a _ (by decide), p3 310 (by decide) (by decide)]
  have gx : ∀ x : Int, x ≠ 2 → x ≠ 3 → (x < 5 ∨ 15 < x) → (xwr A (1 + 1 + 1) 1 0) x = M x := fun x x2 x3 x5 => by rw [xwr_a _ (by omega), p3 x x2 x5]
  rcases p6 with ⟨ev, d⟩ | ⟨ev, a7, -, a8, -, V', D'⟩
  · rw [if_pos ev]
    obtain ⟨B', q1, q2, q3⟩ := again (xwr A (1 + 1 + 1) 1 0) (by rw [g310]) (gx 315 (by decide) (by decide) (by decide))
    obtain ⟨o1, o2, o3, o4, o5⟩ := over_s B'
    have d' : yDe (M 4) (M 3 1) A B' := by
      rcases q3 with ⟨-, d'⟩ | ⟨e1, -⟩
      · exact d'
      · omega
    have n12 := yDe_q d'
    refine ⟨-4, _, fQ_isOver 310 B', rfl, gx 0 (by decide) (by decide) (by decide), ?_, ?_, ?_⟩
    · rw [q1]
      unfold yOv
      rw [if_neg (by rw [o2 12 (by decide) (by decide) (by decide)]; exact n12)]
    · rw [o1 0 (by decide)]
      funext j
      rw [q2 0 j (by unfold yOwn; omega) (by omega), gx 0 (by decide) (by decide) (by decide)]
    · have all : ∀ x : Int, x ≠ 310 → ¬ (316 ≤ x ∧ x ≤ 321) → (fQ_isOver 310 B') x = (xwr A (1 + 1 + 1) 1 0) x := fun x x1 x2 => by
        rw [o1 x x1]
        funext j
        exact q2 x j (by unfold yOwn; omega) (by omega)
      have e3 : (fQ_isOver 310 B') 3 1 = 0 := by rw [all 3 (by decide) (by decide)]; exact xwr_s _ _ _ _
      have e2 : (fQ_isOver 310 B') 2 = A 2 := by rw [all 2 (by decide) (by decide), xwr_a _ (by decide)]
      refine Sim_3 S (fun a ha a2 a3 a13 an => ?_) (fun w w0 w1 => ?_) ⟨by rw [e3, o3], by rw [e3]; decide, by rw [e3]; decide⟩ ⟨?_, ?_, ?_⟩
      · rw [all a (by unfold xPer at ha; omega) an, gx a a2 a3 (by unfold xPer at ha; omega)]
      · refine sg_t (m := xwr A (1 + 1 + 1) 1 0) ⟨?_, ?_, ?_, ?_, ?_, ?_⟩ (sg_t (own_sg q2 w0 w1) ⟨?_, ?_, ?_, ?_, ?_, ?_⟩)
        · rw [gx _ (by decide) (by decide) (by decide)]
        · intro i _ _; rw [gx _ (by decide) (by decide) (by decide)]
        · intro i _ _; rw [gx _ (by decide) (by decide) (by decide)]
        · intro i _ _; rw [gx _ (by decide) (by decide) (by decide)]
        · intro i _ _; rw [gx _ (by decide) (by decide) (by decide)]
        · intro i _ _; rw [gx _ (by decide) (by decide) (by decide)]
        · rw [o1 _ (by decide)]
        · intro i _ _; rw [o1 _ (by decide)]
        · intro i _ _; rw [o1 _ (by decide)]
        · intro i _ _; rw [o1 _ (by decide)]
        · intro i _ _; rw [o1 _ (by decide)]
        · intro i _ _; rw [o1 _ (by decide)]
      · rw [e2, o4]; exact d'.2.2.1
      · rw [e2, o5, if_neg n12]; exact d'.2.2.2
      · unfold yB9 at p4 ⊢
        rw [all 13 (by decide) (by decide), xwr_a _ (by decide)]
        exact p4
  · rw [if_neg (by omega)]
    have cp3 : (xwr A (1 + 1 + 1) 1 0) (1 + 1 + 3) 3 = 0 ∨ (xwr A (1 + 1 + 1) 1 0) (1 + 1 + 3) 3 = 1 := by
      rw [xwr_a _ (by decide)]
      have : A (1 + 1 + 3) 3 = V' 0 3 := xPv_0 D'.1 3 (by decide) (by decide)
      rw [this]
      exact D'.2.1.1.2.2.1
    obtain ⟨C, k1, k2, k3⟩ := copy_s (M := xwr A (1 + 1 + 1) 1 0) (d := 1 + 15) (s := 1 + 1 + 3) (by omega) cp3
    have cv : ∀ U : xM, xPv A (2 + 3) U → xPv C 16 U := fun U hU => k3 U (xPv_go (p := 1 + 1 + 3) (M := A) hU (fun a a0 a1 => xwr_a _ (by omega)))
    have vd : ∀ U : xM, xPv A (2 + 3) U → ∀ a i : Int, xvd a i → xVw C 16 a i = U a i := fun U hU a i ha => cv U hU a i ha
    have W1 := xWE_vd D'.2.1 (vd V' D'.1)
    obtain ⟨m1, s1, s2, l1, l2⟩ := settle_s (xPv_V C 16) W1
    have cx : ∀ x : Int, (x < 16 ∨ 26 < x) → C x = (xwr A (1 + 1 + 1) 1 0) x := fun x hx => k2 x (by omega)
    have mx : ∀ x : Int, (x < 16 ∨ 26 < x) → (x < 39 ∨ 146 < x) → (x < 257 ∨ 258 < x) → m1 x = (xwr A (1 + 1 + 1) 1 0) x := fun x h1 h2 h3 => by rw [s2 x h2 h3, cx x h1]
    have m310 : m1 310 = M 310 := by rw [mx 310 (by omega) (by omega) (by omega), g310]
    have mM : ∀ x : Int, x ≠ 2 → x ≠ 3 → (x < 5 ∨ 26 < x) → (x < 39 ∨ 146 < x) → (x < 257 ∨ 258 < x) → m1 x = M x := fun x x2 x3 h1 h2 h3 => by rw [mx x (by omega) h2 h3, gx x x2 x3 (by omega)]
    obtain ⟨B', q1, q2, q3⟩ := again m1 (by rw [m310]) (mM 315 (by decide) (by decide) (by omega) (by omega) (by omega))
    obtain ⟨o1, o2, o3, o4, o5⟩ := over_s B'
    obtain ⟨b12, V2, D2⟩ : B' 310 12 = 0 ∧ ∃ V2 : xM, yDt V2 A B' := by
      rcases q3 with ⟨e1, -⟩ | ⟨-, -, b12, -, -, V2, D2⟩
      · omega
      · exact ⟨b12, V2, D2⟩
    obtain ⟨m2, r1, r2, r3, r4⟩ := copyPrison_s (M := fQ_isOver 310 B') (w := 4) (v := 0) (by decide) (by decide) (by decide) (by decide) (by decide)
    have h2 : m1 (1 + 15) 2 = V2 0 2 := by
      rw [s2 _ (by omega) (by omega)]
      exact vd V2 D2.1 0 2 (by unfold xvd; omega)
    have lines : m2 (310 + 6) 0 = V2 0 2 := by
      rw [r3.1, o1 _ (by decide)]
      exact D2.2.2.1.1.1.1
    have n310 : ∀ j : Int, j ≠ 0 → ¬ (7 ≤ j ∧ j ≤ 13) → j ≠ 6 → j ≠ 14 → j ≠ 15 → m2 310 j = M 310 j := fun j j0 j1 j2 j3 j4 => by
      rw [r2 310 (by omega), o2 j j2 j3 j4, q2 310 j (by unfold yOwn; omega) (by omega), m310]
    have all : ∀ x : Int, x ≠ 310 → ¬ (316 ≤ x ∧ x ≤ 321) → m2 x = m1 x := fun x x1 x2 => by
      rw [r2 x (by omega), o1 x x1]
      funext j
      exact q2 x j (by unfold yOwn; omega) (by omega)
    have q12 : (fQ_isOver 310 B') 310 12 = 0 := by rw [o2 12 (by decide) (by decide) (by decide)]; exact b12
    refine ⟨V2 0 2, m1, m2, ?_, mM 0 (by decide) (by decide) (by omega) (by omega) (by omega), ?_, ?_, ?_⟩
    · rw [k1, xB_s, s1, xB_s, h2]
    · rw [q1]
      unfold yOv
      rw [if_pos q12, r1, xB_s, lines]
    · rw [all 0 (by decide) (by decide), mM 0 (by decide) (by decide) (by omega) (by omega) (by omega)]
    · have sg : ∀ w : Int, 1 ≤ w → w ≤ 3 → xSg M m2 w w := fun w w0 w1 => by
        refine sg_t (m := m1) ⟨?_, ?_, ?_, ?_, ?_, ?_⟩ (sg_t (own_sg q2 (by omega) w1) (sg_t (m := fQ_isOver 310 B') ⟨?_, ?_, ?_, ?_, ?_, ?_⟩ (r4 w (by omega))))
        · rw [mM _ (by decide) (by decide) (by omega) (by omega) (by omega)]
        · intro i _ _; rw [mM _ (by decide) (by decide) (by omega) (by omega) (by omega)]
        · intro i _ _; rw [mM _ (by decide) (by decide) (by omega) (by omega) (by omega)]
        · intro i _ _; rw [mM _ (by decide) (by decide) (by omega) (by omega) (by omega)]
        · intro i _ _; rw [mM _ (by decide) (by decide) (by omega) (by omega) (by omega)]
        · intro i _ _; rw [mM _ (by decide) (by decide) (by omega) (by omega) (by omega)]
        · rw [o1 _ (by decide)]
        · intro i _ _; rw [o1 _ (by decide)]
        · intro i _ _; rw [o1 _ (by decide)]
        · intro i _ _; rw [o1 _ (by decide)]
        · intro i _ _; rw [o1 _ (by decide)]
        · intro i _ _; rw [o1 _ (by decide)]
      have Q2 : xQ0 m2 310 0 V2 := by
        refine xQ0_sg (M := fQ_isOver 310 B') ?_ D2.2.1 r3
        exact xQ0_c D2.2.2.1 (fun x _ _ => o1 x (by omega))
      let N : xM := fun a => if a = 2 ∨ a = 3 ∨ a = 13 ∨ a = 310 then m2 a else M a
      have nE : ∀ a : Int, (a = 2 ∨ a = 3 ∨ a = 13 ∨ a = 310) → N a = m2 a := fun a ha => if_pos ha
      have nM : ∀ a : Int, ¬ (a = 2 ∨ a = 3 ∨ a = 13 ∨ a = 310) → N a = M a := fun a ha => if_neg ha
      have e3 : m2 3 1 = 0 := by rw [all 3 (by decide) (by decide), mx 3 (by omega) (by omega) (by omega)]; exact xwr_s _ _ _ _
      have e2 : m2 2 = A 2 := by rw [all 2 (by decide) (by decide), mx 2 (by omega) (by omega) (by omega), xwr_a _ (by decide)]
      have e13 : m2 13 = A 13 := by rw [all 13 (by decide) (by decide), mx 13 (by omega) (by omega) (by omega), xwr_a _ (by decide)]
      have e310 : m2 310 = (fQ_isOver 310 B') 310 := r2 310 (by omega)
      have SN : Sim N := by
        refine Sim_3 S (fun a ha a2 a3 a13 an => nM a (by unfold xPer at ha; omega)) (fun w w0 w1 => ⟨?_, ?_, ?_, ?_, ?_, ?_⟩) ⟨?_, ?_, ?_⟩ ⟨?_, ?_, ?_⟩
        · rw [nM _ (by omega)]
        · intro i _ _; rw [nM _ (by omega)]
        · intro i _ _; rw [nM _ (by omega)]
        · intro i _ _; rw [nM _ (by omega)]
        · intro i _ _; rw [nM _ (by omega)]
        · intro i _ _; rw [nM _ (by omega)]
        · rw [nE 3 (by omega), nE 310 (by omega), e3, e310, o3]
        · rw [nE 3 (by omega), e3]; decide
        · rw [nE 3 (by omega), e3]; decide
        · rw [nE 2 (by omega), nE 310 (by omega), e2, e310, o4, a7, b12]
        · rw [nE 2 (by omega), nE 310 (by omega), e2, e310, o5, if_pos b12]; exact a8
        · unfold yB9 at p4 ⊢
          rw [nE 13 (by omega), e13]
          exact p4
      refine Sim_0 (M := N) (V := xVw C 16) SN (fun a ha => ?_) (by rw [nE 310 (by omega)]) (by rw [nE 310 (by omega)]) (by rw [nE 310 (by omega)]) (fun a i a0 a1 => ?_) W1 (xQ0_vd Q2 D2.2.1 (vd V2 D2.1)) (fun w w0 w1 => ?_) (fun _ => ⟨?_, ?_⟩)
      · by_cases h : a = 2 ∨ a = 3 ∨ a = 13 ∨ a = 310
        · rw [nE a h]
        · rw [nM a h, all a (by omega) (by omega), mM a (by omega) (by omega) (by omega) (by omega) (by omega)]
      · unfold xVw
        rw [all _ (by omega) (by omega), s2 _ (by omega) (by omega)]
      · refine sg_t (m := M) ⟨?_, ?_, ?_, ?_, ?_, ?_⟩ (sg w w0 w1)
        · rw [nM _ (by omega)]
        · intro i _ _; rw [nM _ (by omega)]
        · intro i _ _; rw [nM _ (by omega)]
        · intro i _ _; rw [nM _ (by omega)]
        · intro i _ _; rw [nM _ (by omega)]
        · intro i _ _; rw [nM _ (by omega)]
      · exact xLook_go W1.1 l1 (fun a a0 a1 _ => all a (by omega) (by omega))
      · unfold xCs at l2 ⊢
        rw [all (256 + 1) (by omega) (by omega), all (256 + 2) (by omega) (by omega)]
        exact l2
end
