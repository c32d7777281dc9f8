/-! a line, on both sides: quarrel, plan -/
noncomputable section
def yOwn (x j : Int) : Prop := (x = 310 ∧ 7 ≤ j ∧ j ≤ 13) ∨ (x = 316 ∧ 4 ≤ j) ∨ (x = 317 ∧ 28 ≤ j) ∨ (x = 318 ∧ 216 ≤ j) ∨ (x = 319 ∧ 96 ≤ j) ∨ (x = 320 ∧ 128 ≤ j) ∨ (x = 321 ∧ 96 ≤ j)
def yGb (B B' : xM) : Prop := ∀ x j : Int, ¬ yOwn x j → B' x j = B x j
def yGo (A A' : xM) : Prop := ∀ x : Int, x ≠ 2 → (x < 5 ∨ 15 < x) → A' x = A x
def yB9 (A : xM) : Prop := ∀ i : Int, 0 ≤ i → i < 9 → 0 ≤ A 13 i ∧ A 13 i ≤ 9
def yGa (A A' : xM) : Prop := yGo A A' ∧ (yB9 A → yB9 A')
theorem yGb_r (B : xM) : yGb B B := fun _ _ _ => rfl
theorem yGa_r (B : xM) : yGa B B := ⟨fun _ _ _ => rfl, id⟩
theorem yGb_t {B C D : xM} (h : yGb B C) (k : yGb C D) : yGb B D := fun x j n => (k x j n).trans (h x j n)
theorem yGa_t {B C D : xM} (h : yGa B C) (k : yGa C D) : yGa B D := ⟨fun x a b => (k.1 x a b).trans (h.1 x a b), fun y => k.2 (h.2 y)⟩
theorem yGb_F {B B' : xM} (h : yFb B B') : yGb B B' := fun x j n => by
  by_cases e : x = 310
  · subst e
    exact h.2 j (by unfold yOwn at n; omega)
  · rw [h.1 x e]
theorem yGa_F {A A' : xM} (h : yFa A A') : yGa A A' := ⟨fun x a _ => h.1 x a, fun y => by unfold yB9 at y ⊢; rw [h.1 13 (by decide)]; exact y⟩
theorem yGb_w {B B' : xM} (h : yGb B B') {x j : Int} (v : Int) (o : yOwn x j) : yGb B (xwr B' x j v) := fun y i n => by
  rw [xwr_n _ (fun e => n (by rw [e.1, e.2]; exact o))]
  exact h y i n
theorem yGo_w {A A' : xM} (h : yGa A A') {x : Int} (j v : Int) (x0 : 5 ≤ x) (x1 : x ≤ 15) : yGo A (xwr A' x j v) := fun y a b => by
  rw [xwr_a _ (by omega)]
  exact h.1 y a b
def yDt (V A B : xM) : Prop := xPv A (2 + 3) V ∧ xWE V ∧ xQ0 B 310 4 V ∧ A 2 6 = B (310 + 7) 30 ∧ 0 ≤ A 2 6 ∧ (A 2 6 ≤ V 0 0 ∧ ∀ c : Int, A 2 6 ≤ c → c < 9 → xbt (V 0 4) c = false)
theorem xQ0_c {B B' V : xM} {w : Int} (Q : xQ0 B 310 w V) (h : ∀ x : Int, 316 ≤ x → x ≤ 321 → B' x = B x) : xQ0 B' 310 w V := ⟨xQd_go Q.1 h, by rw [h (310 + 7) (by decide) (by decide)]; exact Q.2⟩
theorem yDt_o {V A B A' B' : xM} (D : yDt V A B) (fa : ∀ x : Int, 5 ≤ x → x ≤ 15 → A' x = A x) (fa6 : A' 2 6 = A 2 6) (fb : ∀ x : Int, 316 ≤ x → x ≤ 321 → B' x = B x) : yDt V A' B' := by
  obtain ⟨d1, d2, d3, d4, d5, d6⟩ := D
  exact ⟨xPv_go d1 (fun a a0 a1 => fa a (by omega) (by omega)), d2, xQ0_c d3 fb, by rw [fa6, fb (310 + 7) (by decide) (by decide)]; exact d4, by rw [fa6]; exact d5, by rw [fa6]; exact d6⟩
theorem yDt_F {V A B A' B' : xM} (D : yDt V A B) (fa : yFa A A') (fb : yFb B B') : yDt V A' B' := yDt_o D (fun x _ _ => fa.1 x (by omega)) fa.2 (fun x _ _ => fb.1 x (by omega))
def yLo (f : Int → Int) (L a : Int) (V A B A' B' : xM) : Prop := yGa A A' ∧ yGb B B' ∧ (yDe f L A' B' ∨ (B' 310 12 = 0 ∧ ∃ B'' : xM, fQ_ends 310 B' = some B'' ∧ yGb B B'' ∧ (yDe f L A' B'' ∨ ∃ (a' e' k' : Int) (V' : xM), a < a' ∧ yAl f L a' e' k' A' B'' ∧ yDt V' A' B'' ∧ V' 0 2 = V 0 2 ∧ 2 ≤ V' 0 0)))
/-- both begin a token further on -/
theorem yLo_n {f : Int → Int} {L a b : Int} {V A B A1 B1 A' B' : xM} (fa : yGa A A1) (fb : yGb B B1) (h : yLo f L b V A1 B1 A' B') (l : a ≤ b) : yLo f L a V A B A' B' := by
  obtain ⟨g1, g2, g3⟩ := h
  refine ⟨yGa_t fa g1, yGb_t fb g2, ?_⟩
  rcases g3 with x | ⟨x, B'', y, z, u⟩
  · exact Or.inl x
  · refine Or.inr ⟨x, B'', y, yGb_t fb z, ?_⟩
    rcases u with u | ⟨a', e', k', V', p, q⟩
    · exact Or.inl u
    · exact Or.inr ⟨a', e', k', V', by omega, q⟩
theorem hasRead_s (B : xM) (c : Int) (c0 : 0 ≤ c) (c1 : c ≤ 6) : fQ_hasRead 310 c B = some (B (310 + 7) (28 + c)) := by
  unfold fQ_hasRead
  rw [xw32_id (by omega) (by omega), xA_p (by omega)]
/-- the sign at a line's end: what the class writes behind it, the reference has written ahead of it -/
theorem lend_s {f : Int → Int} {L a e k : Int} {V A B A2 B2 B3 : xM} {W : xM → Option xM} (al : yAl f L a e k A2 B2) (ga : yGa A A2) (gb : yGb B B3) (k310 : B3 310 = B2 310) (k315 : B3 315 = B2 315) (hW : ∀ A3 B4 : xM, yFa A2 A3 → yFb B3 B4 → A3 2 7 = 0 → ∃ (A' V' : xM), W A3 = some A' ∧ yGo A A' ∧ (∀ j : Int, j ≠ 6 → A' 2 j = A3 2 j) ∧ yDt V' A' B4 ∧ V' 0 2 = V 0 2 ∧ 2 ≤ V' 0 0) : ∃ A' : xM, xB (fReader_takeSign 2 A2) (fun m => if (m 2 7) = 0 then W m else some m) = some A' ∧ yLo f L a V A B A' B3 := by
  have al2 : yAl f L a e k A2 B3 := yAl_o al (fun _ _ _ _ => rfl) rfl rfl (fun j _ _ => by rw [k310]) k315
  obtain ⟨A3, B4, e3, e4, fa, fb, u⟩ := sign_s al2
  rw [e3, xB_s]
  rcases u with ⟨a', e', k', l, al3⟩ | d
  · obtain ⟨A', V', w1, w2, w3, w4, w5, w6⟩ := hW A3 B4 fa fb al3.2.1.1
    rw [if_pos al3.2.1.1]
    refine ⟨A', w1, ⟨w2, fun _ i i0 i1 => by
      have q : A' (2 + 3 + 8) i = V' 8 i := xPv_7 w4.1 8 i (by decide) (by decide) i0 i1
      show 0 ≤ A' (2 + 3 + 8) i ∧ A' (2 + 3 + 8) i ≤ 9
      rw [q]
      exact w4.2.1.1.2.2.2.2.2.2.1 i i0 i1⟩, gb, Or.inr ⟨al2.2.2.1.1, B4, e4, yGb_t gb (yGb_F fb), Or.inr ⟨a', e', k', V', l, ?_, w4, w5, w6⟩⟩⟩
    have p3 : A' 3 = A3 3 := by rw [w2 3 (by decide) (by decide), ← ga.1 3 (by decide) (by decide), fa.1 3 (by decide)]
    have p4 : A' 4 = A3 4 := by rw [w2 4 (by decide) (by decide), ← ga.1 4 (by decide) (by decide), fa.1 4 (by decide)]
    exact yAl_o al3 (fun j _ _ h => w3 j h) p3 p4 (fun j _ _ => rfl) rfl
  · rw [if_neg d.2.1.1]
    exact ⟨A3, rfl, yGa_t ga (yGa_F fa), gb, Or.inr ⟨al2.2.2.1.1, B4, e4, yGb_t gb (yGb_F fb), Or.inl d⟩⟩
theorem good_0 {B : xM} (h : B 310 12 = 0) : ¬ fQ_isGood 310 B = 0 := by unfold fQ_isGood; rw [if_pos h]; decide
theorem good_1 {B : xM} (h : B 310 12 ≠ 0) : fQ_isGood 310 B = 0 := by unfold fQ_isGood; rw [if_neg h]
theorem yDe_q {f : Int → Int} {L : Int} {A B : xM} (d : yDe f L A B) : B 310 12 ≠ 0 := by rw [← d.2.2.1]; exact d.2.1.1
/-- a cell's number, on both sides -/
theorem here_s {f : Int → Int} {L a e k N : Int} {A B : xM} (al : yAl f L a e k A B) (hN : B (310 + 7) (28 + 0) = N) (n0 : 0 ≤ N) (n1 : N ≤ 9) : ∃ (v w : Int) (A' B' : xM), fReader_takeNumber 2 0 (N - 1) A = some (v, A') ∧ fQ_cellHere 310 B = some (w, B') ∧ yFa A A' ∧ yFb B B' ∧ ((v = w ∧ 0 ≤ v ∧ v ≤ N - 1 ∧ ∃ a' e' k' : Int, a < a' ∧ yAl f L a' e' k' A' B') ∨ yDe f L A' B') := by
  obtain ⟨v, w, A1, B1, e1, e2, fa, fb, u⟩ := num_s (lo := 0) (hi := N - 1) al (by decide) (by omega)
  refine ⟨v, w, A1, B1, e1, ?_, fa, fb, u⟩
  rw [e_q_cellHere, hasRead_s B 0 (by decide) (by decide), xB_s, hN, xw32_id (by omega) (by omega), e2, xB2_s]
theorem here_d {B : xM} (h : B 310 12 ≠ 0) : fQ_cellHere 310 B = some (0, B) := by
  rw [e_q_cellHere, hasRead_s B 0 (by decide) (by decide), xB_s, num2_d h, xB2_s]
theorem Q4_05 {V m : xM} {y : Int} (Q : xQ0 m 310 4 V) : xQ0 (xwr m (310 + 7) 32 y) 310 4 (xwr V 0 5 y) := by
  have e1 := fun i => xwr_r (V := V) (a := 0) (c := 5) (v := y) 1 i (by decide)
  have e2 := fun i => xwr_r (V := V) (a := 0) (c := 5) (v := y) 2 i (by decide)
  have e3 := fun i => xwr_r (V := V) (a := 0) (c := 5) (v := y) 3 i (by decide)
  have e4 := fun i => xwr_r (V := V) (a := 0) (c := 5) (v := y) 4 i (by decide)
  have e5 := fun i => xwr_r (V := V) (a := 0) (c := 5) (v := y) 5 i (by decide)
  have e6 := fun i => xwr_r (V := V) (a := 0) (c := 5) (v := y) 6 i (by decide)
  have e7 := fun i => xwr_r (V := V) (a := 0) (c := 5) (v := y) 7 i (by decide)
  have e8 := fun i => xwr_r (V := V) (a := 0) (c := 5) (v := y) 8 i (by decide)
  have e9 := fun i => xwr_r (V := V) (a := 0) (c := 5) (v := y) 9 i (by decide)
  have e10 := fun i => xwr_r (V := V) (a := 0) (c := 5) (v := y) 10 i (by decide)
  have e0 : ∀ i : Int, i ≠ 5 → xwr V 0 5 y 0 i = V 0 i := fun i hi => xwr_n _ (fun x => hi x.2)
  have f6 : (xwr m (310 + 7) 32 y) (310 + 6) = m (310 + 6) := xwr_a _ (by decide)
  have f8 : (xwr m (310 + 7) 32 y) (310 + 8) = m (310 + 8) := xwr_a _ (by decide)
  have f9 : (xwr m (310 + 7) 32 y) (310 + 9) = m (310 + 9) := xwr_a _ (by decide)
  have f10 : (xwr m (310 + 7) 32 y) (310 + 10) = m (310 + 10) := xwr_a _ (by decide)
  have f11 : (xwr m (310 + 7) 32 y) (310 + 11) = m (310 + 11) := xwr_a _ (by decide)
  have g : ∀ i : Int, i ≠ 32 → (xwr m (310 + 7) 32 y) (310 + 7) i = m (310 + 7) i := fun i hi => xwr_n _ (fun x => hi x.2)
  have nv : ∀ d s : Int, xnv (xwr V 0 5 y) d s = xnv V d s := fun d s => by unfold xnv; rw [e0 0 (by decide), e0 3 (by decide)]
  unfold xQ0 xQd at Q ⊢
  simp only [e0 0 (by decide), e0 1 (by decide), e0 2 (by decide), e0 3 (by decide), e0 4 (by decide), e0 6 (by decide), e0 7 (by decide), xwr_s V 0 5 y, e1, e2, e3, e4, e5, e6, e7, e8, e9, e10, f6, f8, f9, f10, f11, xnk_a f9, nv]
  obtain ⟨⟨⟨a1, a2, a3, a4, a5, a6⟩, b⟩, c⟩ := Q
  exact ⟨⟨⟨a1, by rw [g _ (by decide)]; exact a2, by rw [g _ (by decide)]; exact a3, xwr_s m (310 + 7) 32 y, by rw [g _ (by decide)]; exact a5, by rw [g _ (by decide)]; exact a6⟩, b⟩, by rw [g _ (by decide)]; exact c⟩
theorem Q4_10 {V m : xM} {h x : Int} (Q : xQ0 m 310 4 V) : xQ0 (xwr m (310 + 11) (96 + h) x) 310 4 (xwr V 10 h x) := by
  have e0 := fun i => xwr_r (V := V) (a := 10) (c := h) (v := x) 0 i (by decide)
  have e1 := fun i => xwr_r (V := V) (a := 10) (c := h) (v := x) 1 i (by decide)
  have e2 := fun i => xwr_r (V := V) (a := 10) (c := h) (v := x) 2 i (by decide)
  have e3 := fun i => xwr_r (V := V) (a := 10) (c := h) (v := x) 3 i (by decide)
  have e4 := fun i => xwr_r (V := V) (a := 10) (c := h) (v := x) 4 i (by decide)
  have e5 := fun i => xwr_r (V := V) (a := 10) (c := h) (v := x) 5 i (by decide)
  have e6 := fun i => xwr_r (V := V) (a := 10) (c := h) (v := x) 6 i (by decide)
  have e7 := fun i => xwr_r (V := V) (a := 10) (c := h) (v := x) 7 i (by decide)
  have e8 := fun i => xwr_r (V := V) (a := 10) (c := h) (v := x) 8 i (by decide)
  have e9 := fun i => xwr_r (V := V) (a := 10) (c := h) (v := x) 9 i (by decide)
  have f6 : (xwr m (310 + 11) (96 + h) x) (310 + 6) = m (310 + 6) := xwr_a _ (by decide)
  have f7 : (xwr m (310 + 11) (96 + h) x) (310 + 7) = m (310 + 7) := xwr_a _ (by decide)
  have f8 : (xwr m (310 + 11) (96 + h) x) (310 + 8) = m (310 + 8) := xwr_a _ (by decide)
  have f9 : (xwr m (310 + 11) (96 + h) x) (310 + 9) = m (310 + 9) := xwr_a _ (by decide)
  have f10 : (xwr m (310 + 11) (96 + h) x) (310 + 10) = m (310 + 10) := xwr_a _ (by decide)
  have nv : ∀ d s : Int, xnv (xwr V 10 h x) d s = xnv V d s := fun d s => by unfold xnv; rw [e0, e0]
  unfold xQ0 xQd at Q ⊢
  simp only [e0, e1, e2, e3, e4, e5, e6, e7, e8, e9, f6, f7, f8, f9, f10, xnk_a f9, nv]
  refine ⟨⟨Q.1.1, Q.1.2.1, Q.1.2.2.1, Q.1.2.2.2.1, Q.1.2.2.2.2.1, fun k k0 k1 => ?_⟩, Q.2⟩
  have z := Q.1.2.2.2.2.2 k k0 k1
  rw [xwr_at, xwr_at, z]
  (repeat' split) <;> first | rfl | (exfalso; omega)
/-! quarrel -/
theorem quarrel_p {f : Int → Int} {L a e k : Int} {V A B : xM} (al : yAl f L a e k A B) (D : yDt V A B) (p2 : 2 ≤ V 0 0) : ∃ A' B' : xM, xB2 (fReader_takeNumber 2 0 (xw32 ((A (2 + 3) 0) - 1)) A) (fun v3 m3 => xB (fReader_takeSign 2 m3) (fun m4 => if (m4 2 7) = 0 then (some (xwr m4 (2 + 3) 5 (xor32 (m4 (2 + 3) 5) (xshl 1 v3)))) else (some m4))) = some A' ∧ xB2 (fQ_cellHere 310 B) (fun v10 m10 => if (fQ_isGood 310 m10) = 0 then (some m10) else (some (xwr m10 (310 + 7) 32 (xor32 (m10 (310 + 7) 32) (xshl 1 v10))))) = some B' ∧ yLo f L a V A B A' B' := by
  have hN := D.2.1.1.1
  have cN : A (2 + 3) 0 = V 0 0 := xPv_0 D.1 0 (by decide) (by decide)
  have qN : B (310 + 7) (28 + 0) = V 0 0 := D.2.2.1.1.1.2.1
  obtain ⟨v, w, A1, B1, e1, e2, fa, fb, u⟩ := here_s al qN hN.1 hN.2
  rw [cN, xw32_id (x := V 0 0 - 1) (by omega) (by omega), e1, xB2_s, e2, xB2_s]
  rcases u with ⟨ev, v0, v1, a1, e1', k1, l1, al1⟩ | d
  · subst ev
    have D1 := yDt_F D fa fb
    have q32 : B1 (310 + 7) 32 = V 0 5 := D1.2.2.1.1.1.2.2.2.1
    rw [if_neg (good_0 al1.2.2.1.1), q32, show xor32 (V 0 5) (xshl 1 v) = xad (V 0 5) v from rfl]
    have F := D.2.1.2.2.2.2.2.2.2.2.2.1
    have r := xad_rg (n := (V 0 0).toNat) F.1 F.2 v0 (by omega) (by omega)
    have p9 := (xpwn hN.1 hN.2).2
    obtain ⟨A', y1, y2⟩ := lend_s (V := V) (A := A) (B := B) (B3 := xwr B1 (310 + 7) 32 (xad (V 0 5) v)) (W := fun m4 => some (xwr m4 (2 + 3) 5 (xor32 (m4 (2 + 3) 5) (xshl 1 v)))) al1 (yGa_F fa) (yGb_w (yGb_F fb) _ (by unfold yOwn; omega)) (xwr_a _ (by decide)) (xwr_a _ (by decide)) (fun A3 B4 fa3 fb4 _ => by
      have p : A3 (2 + 3) 5 = V 0 5 := by rw [fa3.1 (2 + 3) (by decide)]; exact xPv_0 D1.1 5 (by decide) (by decide)
      refine ⟨_, xwr V 0 5 (xad (V 0 5) v), by show some (xwr A3 (2 + 3) 5 (xor32 (A3 (2 + 3) 5) (xshl 1 v))) = _; rw [p]; rfl, yGo_w (yGa_t (yGa_F fa) (yGa_F fa3)) _ _ (by decide) (by decide), fun j hj => by rw [xwr_a _ (by decide)], ⟨xPv_w0 (xPv_go D1.1 (fun x _ _ => fa3.1 x (by omega))) 5 _, WE_05 D.2.1 r.1 r.2 (by omega), xQ0_c (Q4_05 D1.2.2.1) (fun x _ _ => fb4.1 x (by omega)), ?_, ?_, ?_⟩, xwr_n _ (by decide), by rw [xwr_n _ (by decide)]; exact p2⟩
      · show (xwr A3 (2 + 3) 5 (xad (V 0 5) v)) 2 6 = _
        rw [xwr_a _ (by decide), fa3.2, fb4.1 (310 + 7) (by decide), xwr_n _ (by decide)]; exact D1.2.2.2.1
      · show 0 ≤ (xwr A3 (2 + 3) 5 (xad (V 0 5) v)) 2 6
        rw [xwr_a _ (by decide), fa3.2]; exact D1.2.2.2.2.1
      · have q : (xwr A3 (2 + 3) 5 (xad (V 0 5) v)) 2 6 = A1 2 6 := by rw [xwr_a _ (by decide), fa3.2]
        rw [q, show (xwr V 0 5 (xad (V 0 5) v)) 0 0 = V 0 0 from xwr_n _ (by decide), show (xwr V 0 5 (xad (V 0 5) v)) 0 4 = V 0 4 from xwr_n _ (by decide)]; exact D1.2.2.2.2.2)
    exact ⟨A', _, y1, rfl, yLo_n (yGa_r _) (yGb_r _) y2 (by omega)⟩
  · rw [ts_d d.2.1, xB_s, if_neg d.2.1.1, if_pos (good_1 (yDe_q d))]
    exact ⟨A1, B1, rfl, rfl, yGa_F fa, yGb_F fb, Or.inl d⟩
theorem quarrel_d {f : Int → Int} {L a : Int} {V A B A1 B1 : xM} {N : Int} (ga : yGa A A1) (gb : yGb B B1) (d : yDe f L A1 B1) : ∃ A' B' : xM, xB2 (fReader_takeNumber 2 0 N A1) (fun v3 m3 => xB (fReader_takeSign 2 m3) (fun m4 => if (m4 2 7) = 0 then (some (xwr m4 (2 + 3) 5 (xor32 (m4 (2 + 3) 5) (xshl 1 v3)))) else (some m4))) = some A' ∧ xB2 (fQ_cellHere 310 B1) (fun v10 m10 => if (fQ_isGood 310 m10) = 0 then (some m10) else (some (xwr m10 (310 + 7) 32 (xor32 (m10 (310 + 7) 32) (xshl 1 v10))))) = some B' ∧ yLo f L a V A B A' B' := by
  rw [tn_d d.2.1, xB2_s, ts_d d.2.1, xB_s, if_neg d.2.1.1, here_d (yDe_q d), xB2_s, if_pos (good_1 (yDe_q d))]
  exact ⟨A1, B1, rfl, rfl, ga, gb, Or.inl d⟩
theorem quarrel_s {f : Int → Int} {L a e k : Int} {V A B : xM} (al0 : yAl f L a e k A B) (D0 : yDt V A B) (p2 : 2 ≤ V 0 0) (y : yis f a e k (xstr (1 : Int).toNat) = true) : ∃ B1 A' B' : xM, fQ_takes 310 6888374364 B = some (1, B1) ∧ fReader_readQuarrel 2 A = some A' ∧ fQ_quarrelLine 310 B1 = some B' ∧ yLo f L a V A B A' B' := by
  obtain ⟨A1, B1, e1, -, e2, -, fa, fb, a1, e1', k1, l1, al⟩ := word_t al0 yW_1 y
  have D := yDt_F D0 fa fb
  have hN := D.2.1.1.1
  have w := D.2.1
  have cN : A1 (2 + 3) 0 = V 0 0 := xPv_0 D.1 0 (by decide) (by decide)
  have c5 : A1 (2 + 3) 5 = V 0 5 := xPv_0 D.1 5 (by decide) (by decide)
  have qN : B1 (310 + 7) (28 + 0) = V 0 0 := D.2.2.1.1.1.2.1
  have q5 : B1 (310 + 7) (28 + 4) = V 0 5 := D.2.2.1.1.1.2.2.2.1
  obtain ⟨A2, B2, g1, g2, g3⟩ := quarrel_p al D p2
  have plain : yLo f L a V A B A2 B2 := yLo_n (yGa_F fa) (yGb_F fb) g3 (by omega)
  refine ⟨B1, ?_⟩
  rw [e2, e_readQuarrel, e1, xB_s, e_q_quarrelLine, if_pos al.2.2.1.1, al.2.1.2.2.2, al.2.2.1.2.2.2, e_readQuarrel_L33, if_pos (show (0 : Int) = 0 from rfl), g1, g2]
  by_cases x : k1 = 2
  · have r := yvl_rg (f := f) (a := a1) (e1' - a1).toNat (fun i i0 i1 => by
      obtain ⟨n, n0, q⟩ := al.2.2.2.2.2
      rcases q.2 with z | ⟨-, -, z | z | z⟩
      · omega
      · omega
      · exact z.2.2.2.1 i i0 (by have := z.2.1; omega)
      · omega)
    obtain ⟨v1, v2⟩ := al.2.2.2.1 x
    rw [if_pos x, if_pos x, hasRead_s B1 0 (by decide) (by decide), xB_s, hasRead_s B1 4 (by decide) (by decide), xB_s, hasCell_s, qN, q5, cN, c5, v1, v2]
    generalize yvl f a1 (e1' - a1).toNat = t at *
    by_cases y2 : t < V 0 0
    · have tc : ycv t = t := by unfold ycv; rw [if_pos (by omega)]
      rw [tc, if_pos y2, if_neg (show ¬ (if (if 0 ≤ t ∧ t < V 0 0 then (1 : Int) else 0) = 0 then (0 : Int) else 1) = 0 by rw [if_pos (show 0 ≤ t ∧ t < V 0 0 by omega), if_neg (by decide)]; decide), nb_s D.1 w.1 (by omega) y2, beside_s (w := 4) (N := V 0 0) (R := V 0 3) D.2.2.1.1.1.2.1 D.2.2.1.2 w.1.2.2.1 hN.2 (by decide) (by decide) (by omega) y2 (Or.inr rfl), xB_s, fD_bit_s _ A1 (by omega) (by omega), xbit_t _ (by omega) (by omega)]
      obtain ⟨d, fa2, fb2, -⟩ := fail_s (c := 2) al (by decide)
      have ga := yGa_t (yGa_F fa) (yGa_F fa2)
      have gb := yGb_t (yGb_F fb) (yGb_F fb2)
      by_cases z : xnb (V 0 0) (V 0 3) t 1 = -1
      · rw [if_pos z, if_pos z]
        obtain ⟨A3, B3, h1, h2, h3⟩ := quarrel_d (a := a) (V := V) (N := xw32 ((fReader_fail 2 2 A1) (2 + 3) 0 - 1)) ga gb d
        exact ⟨A3, B3, rfl, h1, h2, h3⟩
      · rw [if_neg z, if_neg z]
        by_cases u : (if xbt (V 0 5) t = true then (1 : Int) else 0) = 1
        · rw [if_pos u, if_pos u]
          obtain ⟨A3, B3, h1, h2, h3⟩ := quarrel_d (a := a) (V := V) (N := xw32 ((fReader_fail 2 2 A1) (2 + 3) 0 - 1)) ga gb d
          exact ⟨A3, B3, rfl, h1, h2, h3⟩
        · rw [if_neg u, if_neg u]
          exact ⟨A2, B2, rfl, rfl, rfl, plain⟩
    · have tc : ¬ (0 ≤ ycv t ∧ ycv t < V 0 0) := by unfold ycv; split <;> omega
      rw [if_neg y2, if_pos (show (if (if 0 ≤ ycv t ∧ ycv t < V 0 0 then (1 : Int) else 0) = 0 then (0 : Int) else 1) = 0 by rw [if_neg tc, if_pos rfl])]
      exact ⟨A2, B2, rfl, rfl, rfl, plain⟩
  · rw [if_neg x, if_neg x]
    exact ⟨A2, B2, rfl, rfl, rfl, plain⟩
/-! plan -/
theorem plan_l {f : Int → Int} {L a e k : Int} {V A B : xM} (al0 : yAl f L a e k A B) (D0 : yDt V A B) (p2 : 2 ≤ V 0 0) (y : yis f a e k (xstr (4 : Int).toNat) = true) : ∃ A' B' : xM, fReader_readPlan 2 A = some A' ∧ xB (fQ_asks 310 323717 B) (fun m5 => xB (fQ_hasRead 310 1 m5) (fun v6 => xB2 (fQ_number2 310 0 (xw32 (v6 - 1)) m5) (fun v7 m7 => xB2 (fQ_cellHere 310 m7) (fun v8 m8 => if (fQ_isGood 310 m8) = 0 then (some m8) else (xA (0 ≤ (xw32 (96 + v7)) ∧ (xw32 (96 + v7)) < 120) (some (xwr m8 (310 + 11) (xw32 (96 + v7)) v8))))))) = some B' ∧ yLo f L a V A B A' B' := by
  obtain ⟨A1, B1, e1, -, -, e2, fa, fb, a1, e1', k1, l1, al⟩ := word_t al0 yW_4 y
  have D := yDt_F D0 fa fb
  have hN := D.2.1.1.1
  have hH := D.2.1.1.2.1
  have cH : A1 (2 + 3) 1 = V 0 1 := xPv_0 D.1 1 (by decide) (by decide)
  have qH : B1 (310 + 7) (28 + 1) = V 0 1 := D.2.2.1.1.1.2.2.1
  rw [e_readPlan, e1, xB_s, e2, xB_s, hasRead_s B1 1 (by decide) (by decide), xB_s, cH, qH, xw32_id (x := V 0 1 - 1) (by omega) (by omega)]
  obtain ⟨v, w, A2, B2, e3, e4, fa2, fb2, u⟩ := num_s (lo := 0) (hi := V 0 1 - 1) al (by decide) (by omega)
  rw [e3, xB2_s, e4, xB2_s]
  rcases u with ⟨ev, v0, v1, a2, e2', k2, l2, al2⟩ | d
  · subst ev
    have D2 := yDt_F D fa2 fb2
    have cN : A2 (2 + 3) 0 = V 0 0 := xPv_0 D2.1 0 (by decide) (by decide)
    have qN : B2 (310 + 7) (28 + 0) = V 0 0 := D2.2.2.1.1.1.2.1
    obtain ⟨c, c', A3, B3, e5, e6, fa3, fb3, u3⟩ := here_s al2 qN hN.1 hN.2
    rw [cN, xw32_id (x := V 0 0 - 1) (by omega) (by omega), e5, xB2_s, e6, xB2_s]
    have ga : yGa A A3 := yGa_t (yGa_F fa) (yGa_t (yGa_F fa2) (yGa_F fa3))
    have gb : yGb B B3 := yGb_t (yGb_F fb) (yGb_t (yGb_F fb2) (yGb_F fb3))
    rcases u3 with ⟨ec, c0, c1, a3, e3', k3, l3, al3⟩ | d
    · subst ec
      have D3 := yDt_F D2 fa3 fb3
      rw [if_neg (good_0 al3.2.2.1.1), xw32_id (x := 96 + v) (by omega) (by omega), xA_p (by omega)]
      obtain ⟨A', y1, y2⟩ := lend_s (V := V) (A := A) (B := B) (B3 := xwr B3 (310 + 11) (96 + v) c) (W := fun m4 => xA (0 ≤ v ∧ v < 24) (some (xwr m4 ((2 + 3) + 10) v c))) al3 ga (yGb_w gb _ (by unfold yOwn; omega)) (xwr_a _ (by decide)) (xwr_a _ (by decide)) (fun A4 B4 fa4 fb4 _ => by
        refine ⟨_, xwr V 10 v c, by show xA _ _ = _; rw [xA_p (by omega)], yGo_w (yGa_t ga (yGa_F fa4)) _ _ (by decide) (by decide), fun j hj => by rw [xwr_a _ (by decide)], ⟨xPv_w (xPv_go D3.1 (fun x _ _ => fa4.1 x (by omega))) 10 _ _, WE_10 D.2.1 (Or.inr ⟨c0, by omega⟩), xQ0_c (Q4_10 D3.2.2.1) (fun x _ _ => fb4.1 x (by omega)), ?_, ?_, ?_⟩, xwr_n _ (by omega), by rw [xwr_n _ (by omega)]; exact p2⟩
        · rw [xwr_a _ (by decide), fa4.2, fb4.1 (310 + 7) (by decide), xwr_a _ (by decide)]; exact D3.2.2.2.1
        · rw [xwr_a _ (by decide), fa4.2]; exact D3.2.2.2.2.1
        · have q : (xwr A4 ((2 + 3) + 10) v c) 2 6 = A3 2 6 := by rw [xwr_a _ (by decide), fa4.2]
          rw [q, show (xwr V 10 v c) 0 0 = V 0 0 from xwr_n _ (by omega), show (xwr V 10 v c) 0 4 = V 0 4 from xwr_n _ (by omega)]; exact D3.2.2.2.2.2)
      exact ⟨A', _, y1, rfl, yLo_n (yGa_r _) (yGb_r _) y2 (by omega)⟩
    · rw [ts_d d.2.1, xB_s, if_neg d.2.1.1, if_pos (good_1 (yDe_q d))]
      exact ⟨A3, B3, rfl, rfl, ga, gb, Or.inl d⟩
  · rw [tn_d d.2.1, xB2_s, ts_d d.2.1, xB_s, if_neg d.2.1.1, here_d (yDe_q d), xB2_s, if_pos (good_1 (yDe_q d))]
    exact ⟨A2, B2, rfl, rfl, yGa_t (yGa_F fa) (yGa_F fa2), yGb_t (yGb_F fb) (yGb_F fb2), Or.inl d⟩
end
