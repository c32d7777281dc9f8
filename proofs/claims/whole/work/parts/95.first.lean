/-! the first line; any other line -/
noncomputable section
def yPr (v3 v5 : Int) (m5 : xM) : Option xM := xB (fReader_isWord 2 8 m5) (fun v6 => if v6 = 0 then (xB (fReader_takeWord 2 (if v6 = 0 then 9 else 8 : Int) m5) (fun m7 => xB (fReader_takeSign 2 m7) (fun m8 => if (m8 2 7) = 0 then (xA (v6 = 0 ∨ v6 = 1) (some (xwr (xwr (xwr m8 (2 + 3) 0 v3) (2 + 3) 1 v5) (2 + 3) 3 v6))) else (some m8)))) else (if v3 = 2 then (xB (fReader_takeWord 2 (if v6 = 0 then 9 else 8 : Int) (fReader_fail 2 2 m5)) (fun m10 => xB (fReader_takeSign 2 m10) (fun m11 => if (m11 2 7) = 0 then (xA (v6 = 0 ∨ v6 = 1) (some (xwr (xwr (xwr m11 (2 + 3) 0 v3) (2 + 3) 1 v5) (2 + 3) 3 v6))) else (some m11)))) else (xB (fReader_takeWord 2 (if v6 = 0 then 9 else 8 : Int) m5) (fun m12 => xB (fReader_takeSign 2 m12) (fun m13 => if (m13 2 7) = 0 then (xA (v6 = 0 ∨ v6 = 1) (some (xwr (xwr (xwr m13 (2 + 3) 0 v3) (2 + 3) 1 v5) (2 + 3) 3 v6))) else (some m13))))))
theorem e_readPrison3 (M : xM) : fReader_readPrison 2 M = xB (fReader_takeWord 2 5 M) (fun m1 => xB (fReader_takeWord 2 6 m1) (fun m2 => xB2 (fReader_takeNumber 2 2 9 m2) (fun v3 m3 => xB (fReader_takeWord 2 7 m3) (fun m4 => xB2 (fReader_takeNumber 2 1 24 m4) (fun v5 m5 => yPr v3 v5 m5))))) := rfl
def yPq (mx : xM) : Option xM := if (fQ_is 310 361240 mx) = 0 then (if (fQ_is 310 13550 mx) = 0 then (if (fQ_is 310 361240 mx) = 0 then (if ((fQ_fails 310 1 mx) 310 12) = 0 then (xB (fQ_next 310 (fQ_fails 310 1 mx)) (fun m7 => some (xwr m7 (310 + 7) 31 (if (fQ_is 310 361240 mx) = 0 then 0 else 1 : Int)))) else (some (fQ_fails 310 1 mx))) else (xB (fQ_hasRead 310 0 (fQ_fails 310 1 mx)) (fun v8 => if v8 = 2 then (if ((fQ_fails 310 2 (fQ_fails 310 1 mx)) 310 12) = 0 then (xB (fQ_next 310 (fQ_fails 310 2 (fQ_fails 310 1 mx))) (fun m10 => some (xwr m10 (310 + 7) 31 (if (fQ_is 310 361240 mx) = 0 then 0 else 1 : Int)))) else (some (fQ_fails 310 2 (fQ_fails 310 1 mx)))) else (if ((fQ_fails 310 1 mx) 310 12) = 0 then (xB (fQ_next 310 (fQ_fails 310 1 mx)) (fun m11 => some (xwr m11 (310 + 7) 31 (if (fQ_is 310 361240 mx) = 0 then 0 else 1 : Int)))) else (some (fQ_fails 310 1 mx)))))) else (if (fQ_is 310 361240 mx) = 0 then (if (mx 310 12) = 0 then (xB (fQ_next 310 mx) (fun m12 => some (xwr m12 (310 + 7) 31 (if (fQ_is 310 361240 mx) = 0 then 0 else 1 : Int)))) else (some mx)) else (xB (fQ_hasRead 310 0 mx) (fun v13 => if v13 = 2 then (if ((fQ_fails 310 2 mx) 310 12) = 0 then (xB (fQ_next 310 (fQ_fails 310 2 mx)) (fun m15 => some (xwr m15 (310 + 7) 31 (if (fQ_is 310 361240 mx) = 0 then 0 else 1 : Int)))) else (some (fQ_fails 310 2 mx))) else (if (mx 310 12) = 0 then (xB (fQ_next 310 mx) (fun m16 => some (xwr m16 (310 + 7) 31 (if (fQ_is 310 361240 mx) = 0 then 0 else 1 : Int)))) else (some mx)))))) else (if (fQ_is 310 361240 mx) = 0 then (if (mx 310 12) = 0 then (xB (fQ_next 310 mx) (fun m17 => some (xwr m17 (310 + 7) 31 (if (fQ_is 310 361240 mx) = 0 then 0 else 1 : Int)))) else (some mx)) else (xB (fQ_hasRead 310 0 mx) (fun v18 => if v18 = 2 then (if ((fQ_fails 310 2 mx) 310 12) = 0 then (xB (fQ_next 310 (fQ_fails 310 2 mx)) (fun m20 => some (xwr m20 (310 + 7) 31 (if (fQ_is 310 361240 mx) = 0 then 0 else 1 : Int)))) else (some (fQ_fails 310 2 mx))) else (if (mx 310 12) = 0 then (xB (fQ_next 310 mx) (fun m21 => some (xwr m21 (310 + 7) 31 (if (fQ_is 310 361240 mx) = 0 then 0 else 1 : Int)))) else (some mx)))))
theorem e_q_first3 (M : xM) : fQ_first 310 M = xB (fQ_asks 310 239339867 M) (fun m1 => xB2 (fQ_number3 310 1701829 2 9 m1) (fun v2 m2 => xB2 (fQ_number3 310 4562587 1 24 (xwr m2 (310 + 7) 28 v2)) (fun v3 m3 => yPq (xwr m3 (310 + 7) 29 v3)))) := rfl
theorem yPr_d {A : xM} (h : yDa A) (v3 v5 : Int) : yPr v3 v5 A = some A := by
  obtain ⟨v, e, -⟩ := isW_d h 8
  unfold yPr
  rw [e, xB_s, fail_d h, tw_d h, xB_s, ts_d h, xB_s, if_neg h.1]
  (repeat' split) <;> rfl
theorem yPq_d {B : xM} (h : B 310 12 ≠ 0) : yPq B = some B := by
  unfold yPq
  rw [is_d h, is_d h, fails_d h, if_pos (show (0 : Int) = 0 from rfl), if_pos (show (0 : Int) = 0 from rfl), if_pos (show (0 : Int) = 0 from rfl), if_neg h]
def yLp (f : Int → Int) (L a : Int) (P : xM → xM → Prop) (A B A' B' : xM) : Prop := yGa A A' ∧ yGb B B' ∧ (yDe f L A' B' ∨ (B' 310 12 = 0 ∧ ∃ B'' : xM, fQ_ends 310 B' = some B'' ∧ yGb B B'' ∧ (yDe f L A' B'' ∨ ∃ a' e' k' : Int, a < a' ∧ yAl f L a' e' k' A' B'' ∧ P A' B'')))
theorem lend_p {f : Int → Int} {L a0 a e k : Int} {A B A2 B3 : xM} {W : xM → Option xM} {P : xM → xM → Prop} (al2 : yAl f L a e k A2 B3) (la : a0 ≤ a) (ga : yGa A A2) (gb : yGb B B3) (hW : ∀ A3 B4 : xM, yFa A2 A3 → yFb B3 B4 → A3 2 7 = 0 → ∃ A' : xM, W A3 = some A' ∧ yGa A A' ∧ (∀ j : Int, j ≠ 6 → A' 2 j = A3 2 j) ∧ P A' B4) : ∃ A' : xM, xB (fReader_takeSign 2 A2) (fun m => if (m 2 7) = 0 then W m else some m) = some A' ∧ yLp f L a0 P A B A' B3 := by
  obtain ⟨A3, B4, e3, e4, fa, fb, u⟩ := sign_s al2
  rw [e3, xB_s]
  rcases u with ⟨a', e', k', l, al3⟩ | d
  · obtain ⟨A', w1, w2, w3, w4⟩ := hW A3 B4 fa fb al3.2.1.1
    rw [if_pos al3.2.1.1]
    refine ⟨A', w1, w2, gb, Or.inr ⟨al2.2.2.1.1, B4, e4, yGb_t gb (yGb_F fb), Or.inr ⟨a', e', k', by omega, ?_, w4⟩⟩⟩
    have p3 : A' 3 = A3 3 := by rw [w2.1 3 (by decide) (by decide), ← ga.1 3 (by decide) (by decide), fa.1 3 (by decide)]
    have p4 : A' 4 = A3 4 := by rw [w2.1 4 (by decide) (by decide), ← ga.1 4 (by decide) (by decide), fa.1 4 (by decide)]
    exact yAl_o al3 (fun j _ _ h => w3 j h) p3 p4 (fun j _ _ => rfl) rfl
  · rw [if_neg d.2.1.1]
    exact ⟨A3, rfl, yGa_t ga (yGa_F fa), gb, Or.inr ⟨al2.2.2.1.1, B4, e4, yGb_t gb (yGb_F fb), Or.inl d⟩⟩
def yP1 (A' B'' : xM) : Prop := A' (2 + 3) 2 = 0 ∧ B'' (310 + 6) 4 = 0 ∧ ∃ V' : xM, yDt V' (xwr A' (2 + 3) 2 1) (xwr B'' (310 + 6) 4 1) ∧ V' 0 2 = 1 ∧ 2 ≤ V' 0 0
def yV1 (V : xM) (n h r : Int) : xM := xwr (xwr (xwr (xwr V 0 0 n) 0 1 h) 0 3 r) 0 2 1
theorem yV1_r (V : xM) (n h r : Int) : (∀ a i : Int, a ≠ 0 → yV1 V n h r a i = V a i) ∧ (∀ i : Int, 4 ≤ i → yV1 V n h r 0 i = V 0 i) ∧ yV1 V n h r 0 0 = n ∧ yV1 V n h r 0 1 = h ∧ yV1 V n h r 0 3 = r ∧ yV1 V n h r 0 2 = 1 := by
  unfold yV1
  refine ⟨fun a i h0 => ?_, fun i h0 => ?_, ?_, ?_, ?_, ?_⟩
  · rw [xwr_n _ (by omega), xwr_n _ (by omega), xwr_n _ (by omega), xwr_n _ (by omega)]
  · rw [xwr_n _ (by omega), xwr_n _ (by omega), xwr_n _ (by omega), xwr_n _ (by omega)]
  · rw [xwr_n _ (by omega), xwr_n _ (by omega), xwr_n _ (by omega), xwr_s]
  · rw [xwr_n _ (by omega), xwr_n _ (by omega), xwr_s]
  · rw [xwr_n _ (by omega), xwr_s]
  · rw [xwr_s]
theorem yV1_E {V : xM} {n h r : Int} (W : xWE V) (z : V 0 0 = 0) (n0 : 2 ≤ n) (n1 : n ≤ 9) (h0 : 1 ≤ h) (h1 : h ≤ 24) (hr : r = 0 ∨ r = 1) (nr : r = 1 → n ≠ 2) : xWE (yV1 V n h r) := by
  obtain ⟨r1, r4, e0, e1, e3, e2⟩ := yV1_r V n h r
  have z1 := fun i => r1 1 i (by decide)
  have z2 := fun i => r1 2 i (by decide)
  have z3 := fun i => r1 3 i (by decide)
  have z5 := fun i => r1 5 i (by decide)
  have z6 := fun i => r1 6 i (by decide)
  have z8 := fun i => r1 8 i (by decide)
  have z10 := fun i => r1 10 i (by decide)
  have hH := W.2.2.2.1 z
  have F := W.2.2.2.2.2.2.2.2.2.1
  rw [z, show (2 : Int) ^ (0 : Int).toNat = 1 from rfl] at F
  have pp : (0 : Int) < 2 ^ n.toNat := Int.pow_pos (by decide)
  unfold xWE xWF at W ⊢
  rw [e0, e1, e2, e3, r4 4 (by decide), r4 5 (by decide), r4 6 (by decide), r4 7 (by decide)]
  refine ⟨⟨by omega, by omega, hr, W.1.2.2.2.1, fun d d0 d1 => by rw [z1, z2, z3, z5]; exact W.1.2.2.2.2.1 d d0 d1, fun d d0 d1 => by rw [z6]; exact W.1.2.2.2.2.2.1 d d0 d1, fun d d0 d1 => by rw [z8]; exact W.1.2.2.2.2.2.2.1 d d0 d1, W.1.2.2.2.2.2.2.2.1, W.1.2.2.2.2.2.2.2.2.1, fun d d0 d1 => by rw [z10]; exact W.1.2.2.2.2.2.2.2.2.2 d d0 d1⟩, by omega, nr, by omega, by omega, by omega, by omega, W.2.2.2.2.2.2.2.1, W.2.2.2.2.2.2.2.2.1, by omega, W.2.2.2.2.2.2.2.2.2.2.1, fun d t d0 d1 t0 t1 hb => ?_, fun d d0 d1 => ?_⟩
  · rw [z5] at hb
    have := W.2.2.2.2.2.2.2.2.2.2.2.1 d t d0 d1 t0 t1 hb
    omega
  · rw [z10]
    have a := W.2.2.2.2.2.2.2.2.2.2.2.2 d d0 d1
    have b := W.1.2.2.2.2.2.2.2.2.2 d d0 d1
    omega
theorem yV1_Q {V m m' : xM} {n h r : Int} (Q : xQ0 m 310 4 V) (z : V 0 0 = 0) (f6 : m' (310 + 6) 4 = 1) (f7 : ∀ j : Int, j ≠ 28 → j ≠ 29 → j ≠ 31 → m' (310 + 7) j = m (310 + 7) j) (f28 : m' (310 + 7) 28 = n) (f29 : m' (310 + 7) 29 = h) (f31 : m' (310 + 7) 31 = r) (f8 : m' (310 + 8) = m (310 + 8)) (f9 : m' (310 + 9) = m (310 + 9)) (f11 : m' (310 + 11) = m (310 + 11)) : xQ0 m' 310 4 (yV1 V n h r) := by
  obtain ⟨r1, r4, e0, e1, e3, e2⟩ := yV1_r V n h r
  obtain ⟨⟨⟨a1, a2, a3, a4, a5, a6⟩, q2, q3, q4, q5, q6⟩, q7⟩ := Q
  refine ⟨⟨⟨by rw [e2]; exact f6, by rw [e0]; exact f28, by rw [e1]; exact f29, by rw [f7 _ (by decide) (by decide) (by decide), r4 5 (by decide)]; exact a4, by rw [f7 _ (by decide) (by decide) (by decide), r4 6 (by decide)]; exact a5, by rw [f7 _ (by decide) (by decide) (by decide), r4 7 (by decide)]; exact a6⟩, fun d d0 d1 => ?_, fun d t d0 d1 t0 t1 => ?_, fun d d0 d1 => ?_, fun k x0 x1 => ?_, fun t t0 t1 => ?_⟩, by rw [e3]; exact f31⟩
  · rw [f8, r1 1 d (by decide), r1 2 d (by decide), r1 3 d (by decide), r1 6 (2 * d) (by decide), r1 6 (2 * d + 1) (by decide), r4 4 (by decide)]
    exact q2 d d0 d1
  · rw [f9, r1 5 d (by decide), r4 6 (by decide)]
    exact q3 d t d0 d1 t0 t1
  · rw [xnk_a f9, r1 4 d (by decide), r4 6 (by decide)]
    exact q4 d d0 d1
  · rw [r4 7 (by decide)] at x1
    have := (q5 k x0 x1).1
    omega
  · rw [f11, r1 10 t (by decide)]
    exact q6 t t0 t1
theorem first_t {f : Int → Int} {L a0 a e k n h : Int} {V A0 B0 A B : xM} (al : yAl f L a e k A B) (D : yDt V A0 B0) (z : V 0 0 = 0) (la : a0 ≤ a) (n0 : 2 ≤ n) (n1 : n ≤ 9) (h0 : 1 ≤ h) (h1 : h ≤ 24) (fa : yFa A0 A) (gb : yGb B0 B) (b7 : ∀ j : Int, j ≠ 28 → j ≠ 29 → B (310 + 7) j = B0 (310 + 7) j) (b28 : B (310 + 7) 28 = n) (b29 : B (310 + 7) 29 = h) (bo : ∀ x : Int, x ≠ 310 → x ≠ 310 + 7 → B x = B0 x) : ∃ A' B' : xM, yPr n h A = some A' ∧ yPq B = some B' ∧ yLp f L a0 yP1 A0 B0 A' B' := by
  have ga : yGa A0 A := yGa_F fa
  have fin : ∀ (r kk code : Int), (r = 0 ∨ r = 1) → (r = 1 → n ≠ 2) → yW kk code → yis f a e k (xstr kk.toNat) = true → ∃ A' B' : xM, xB (fReader_takeWord 2 kk A) (fun m12 => xB (fReader_takeSign 2 m12) (fun m13 => if (m13 2 7) = 0 then (xA (r = 0 ∨ r = 1) (some (xwr (xwr (xwr m13 (2 + 3) 0 n) (2 + 3) 1 h) (2 + 3) 3 r))) else (some m13))) = some A' ∧ xB (fQ_next 310 B) (fun m16 => some (xwr m16 (310 + 7) 31 r)) = some B' ∧ yLp f L a0 yP1 A0 B0 A' B' := by
    intro r kk code hr nr Wk y
    obtain ⟨A1, B1, e1, en, -, -, fa1, fb1, a1, e1', k1, l1, al1⟩ := word_t al Wk y
    have al1' : yAl f L a1 e1' k1 A1 (xwr B1 (310 + 7) 31 r) := yAl_o al1 (fun _ _ _ _ => rfl) rfl rfl (fun j _ _ => by rw [xwr_a _ (by decide)]) (xwr_a _ (by decide))
    have ga1 : yGa A0 A1 := yGa_t ga (yGa_F fa1)
    have gb1 : yGb B0 (xwr B1 (310 + 7) 31 r) := yGb_w (yGb_t gb (yGb_F fb1)) _ (by unfold yOwn; omega)
    obtain ⟨A', y1, y2⟩ := lend_p (a0 := a0) (A := A0) (B := B0) (P := yP1) (W := fun m13 => xA (r = 0 ∨ r = 1) (some (xwr (xwr (xwr m13 (2 + 3) 0 n) (2 + 3) 1 h) (2 + 3) 3 r))) al1' (by omega) ga1 gb1 (fun A3 B4 fa3 fb4 _ => by
      have c0 : ∀ x : Int, x ≠ 2 + 3 → (xwr (xwr (xwr A3 (2 + 3) 0 n) (2 + 3) 1 h) (2 + 3) 3 r) x = A3 x := fun x hx => by rw [xwr_a _ hx, xwr_a _ hx, xwr_a _ hx]
      have hv : xPv A3 (2 + 3) V := xPv_go D.1 (fun x _ _ => by rw [fa3.1 x (by omega), fa1.1 x (by omega), fa.1 x (by omega)])
      have t6 : A3 2 6 = A0 2 6 := by rw [fa3.2, fa1.2, fa.2]
      have z2 : A3 (2 + 3) 2 = V 0 2 := xPv_0 hv 2 (by decide) (by decide)
      have hv2 : V 0 2 = 0 := D.2.1.2.2.2.2.2.1.mp z
      have bb : ∀ x : Int, x ≠ 310 → x ≠ 310 + 7 → B4 x = B0 x := fun x h1 h2 => by rw [fb4.1 x h1, xwr_a _ h2, fb1.1 x h1, bo x h1 h2]
      have b47 : ∀ j : Int, j ≠ 31 → B4 (310 + 7) j = B (310 + 7) j := fun j hj => by rw [fb4.1 (310 + 7) (by decide), xwr_n _ (by omega), fb1.1 (310 + 7) (by decide)]
      obtain ⟨r1, r4, e0, e1, e3, e2⟩ := yV1_r V n h r
      refine ⟨_, by show xA _ _ = _; rw [xA_p hr], ⟨fun x x2 x5 => by rw [c0 x (by omega), fa3.1 x x2]; exact ga1.1 x x2 x5, fun q => by unfold yB9 at q ⊢; rw [c0 13 (by decide), fa3.1 13 (by decide), fa1.1 13 (by decide), fa.1 13 (by decide)]; exact q⟩, fun j hj => by rw [c0 2 (by decide)], by rw [xwr_n _ (by decide), xwr_n _ (by decide), xwr_n _ (by decide), z2]; exact hv2, by rw [bb _ (by decide) (by decide)]; exact D.2.2.1.1.1.1.trans hv2, yV1 V n h r, ⟨xPv_w0 (xPv_w0 (xPv_w0 (xPv_w0 hv 0 n) 1 h) 3 r) 2 1, yV1_E D.2.1 z n0 n1 h0 h1 hr nr, ?_, ?_, ?_, ?_⟩, e2, by rw [e0]; exact n0⟩
      · refine yV1_Q D.2.2.1 z (xwr_s _ _ _ _) (fun j j1 j2 j3 => ?_) ?_ ?_ ?_ ?_ ?_ ?_
        · rw [xwr_a _ (by decide), b47 j j3, b7 j j1 j2]
        · rw [xwr_a _ (by decide), b47 _ (by decide)]; exact b28
        · rw [xwr_a _ (by decide), b47 _ (by decide)]; exact b29
        · rw [xwr_a _ (by decide), fb4.1 (310 + 7) (by decide), xwr_s]
        · rw [xwr_a _ (by decide), bb _ (by decide) (by decide)]
        · rw [xwr_a _ (by decide), bb _ (by decide) (by decide)]
        · rw [xwr_a _ (by decide), bb _ (by decide) (by decide)]
      · rw [xwr_a (a := 2 + 3) (b := 2) _ (by decide), c0 2 (by decide), t6, xwr_a _ (by decide), b47 _ (by decide), b7 _ (by decide) (by decide)]; exact D.2.2.2.1
      · rw [xwr_a (a := 2 + 3) (b := 2) _ (by decide), c0 2 (by decide), t6]; exact D.2.2.2.2.1
      · rw [xwr_a (a := 2 + 3) (b := 2) _ (by decide), c0 2 (by decide), t6, e0, r4 4 (by decide)]
        have := D.2.2.2.2.2
        exact ⟨by omega, this.2⟩)
    rw [e1, xB_s, en, xB_s]
    exact ⟨A', _, y1, rfl, y2⟩
  unfold yPr yPq
  rw [isW_c (kk := 8) al, xB_s, is_q al yW_8, is_q al yW_9]
  by_cases y8 : yis f a e k (xstr (8 : Int).toNat) = true
  · rw [if_pos y8, if_neg (show ¬ (1 : Int) = 0 by decide), if_neg (show ¬ (1 : Int) = 0 by decide), if_neg (show ¬ (1 : Int) = 0 by decide), if_neg (show ¬ (1 : Int) = 0 by decide), hasRead_s B 0 (by decide) (by decide), xB_s, show B (310 + 7) (28 + 0) = n from b28]
    by_cases n2 : n = 2
    · obtain ⟨d, fa2, fb2, c12⟩ := fail_s (c := 2) al (by decide)
      rw [if_pos n2, tw_d d.2.1, xB_s, ts_d d.2.1, xB_s, if_neg d.2.1.1, if_pos n2, if_neg (yDe_q d)]
      exact ⟨_, _, rfl, rfl, yGa_t ga (yGa_F fa2), yGb_t gb (yGb_F fb2), Or.inl d⟩
    · obtain ⟨A', B', g1, g2, g3⟩ := fin 1 8 361240 (Or.inr rfl) (fun _ => n2) yW_8 y8
      rw [if_neg n2, if_neg n2, if_pos al.2.2.1.1]
      exact ⟨A', B', g1, g2, g3⟩
  · rw [if_neg y8, if_pos (show (0 : Int) = 0 from rfl), if_pos (show (0 : Int) = 0 from rfl), if_pos (show (0 : Int) = 0 from rfl)]
    by_cases y9 : yis f a e k (xstr (9 : Int).toNat) = true
    · obtain ⟨A', B', g1, g2, g3⟩ := fin 0 9 13550 (Or.inl rfl) (fun h => absurd h (by decide)) yW_9 y9
      rw [if_pos y9, if_neg (show ¬ (1 : Int) = 0 by decide), if_pos (show (0 : Int) = 0 from rfl), if_pos al.2.2.1.1]
      exact ⟨A', B', g1, g2, g3⟩
    · obtain ⟨d, fa2, fb2, c12⟩ := fail_s (c := 1) al (by decide)
      have tw : fReader_takeWord 2 9 A = some (fReader_fail 2 1 A) := by
        unfold fReader_takeWord
        rw [isW_c al, xB_s, if_neg y9, if_pos (show (0 : Int) = 0 from rfl), adv_d d.2.1]; rfl
      rw [if_neg y9, if_pos (show (0 : Int) = 0 from rfl), if_pos (show (0 : Int) = 0 from rfl), if_neg (yDe_q d), tw, xB_s, ts_d d.2.1, xB_s, if_neg d.2.1.1]
      exact ⟨_, _, rfl, rfl, yGa_t ga (yGa_F fa2), yGb_t gb (yGb_F fb2), Or.inl d⟩
theorem first_s {f : Int → Int} {L a e k : Int} {V A B : xM} (al0 : yAl f L a e k A B) (D : yDt V A B) (z : V 0 0 = 0) : ∃ A' B' : xM, fReader_readPrison 2 A = some A' ∧ fQ_first 310 B = some B' ∧ yLp f L a yP1 A B A' B' := by
  rw [e_readPrison3, e_q_first3]
  obtain ⟨A1, B1, e1, e2, fa1, fb1, u⟩ := word_s al0 yW_5
  rw [e1, xB_s, e2, xB_s]
  rcases u with ⟨a1, e1', k1, l1, al1⟩ | d
  · obtain ⟨n, n', A2, A3, B3, e3, e4, e5, fa3, fb3, -, u⟩ := wnum_s (lo := 2) (hi := 9) al1 yW_6 (by decide) (by decide)
    rw [e3, xB_s, e4, xB2_s, e5, xB2_s]
    have gb3 : yGb B (xwr B3 (310 + 7) 28 n') := yGb_w (yGb_t (yGb_F fb1) (yGb_F fb3)) _ (by unfold yOwn; omega)
    rcases u with ⟨en, n0, n9, a3, e3', k3, l3, al3⟩ | d
    · subst en
      have al3' : yAl f L a3 e3' k3 A3 (xwr B3 (310 + 7) 28 n) := yAl_o al3 (fun _ _ _ _ => rfl) rfl rfl (fun j _ _ => by rw [xwr_a _ (by decide)]) (xwr_a _ (by decide))
      obtain ⟨h, h', A4, A5, B5, e6, e7, e8, fa5, fb5, -, u⟩ := wnum_s (lo := 1) (hi := 24) al3' yW_7 (by decide) (by decide)
      rw [e6, xB_s, e7, xB2_s, e8, xB2_s]
      have gb5 : yGb B (xwr B5 (310 + 7) 29 h') := yGb_w (yGb_t gb3 (yGb_F fb5)) _ (by unfold yOwn; omega)
      have fa : yFa A A5 := yFa_t fa1 (yFa_t fa3 fa5)
      rcases u with ⟨eh, h0, h9, a5, e5', k5, l5, al5⟩ | d
      · subst eh
        have al5' : yAl f L a5 e5' k5 A5 (xwr B5 (310 + 7) 29 h) := yAl_o al5 (fun _ _ _ _ => rfl) rfl rfl (fun j _ _ => by rw [xwr_a _ (by decide)]) (xwr_a _ (by decide))
        refine first_t al5' D z (by omega) n0 n9 h0 h9 fa gb5 (fun j j1 j2 => ?_) ?_ (xwr_s _ _ _ _) (fun x x1 x2 => ?_)
        · rw [xwr_n _ (by omega), fb5.1 (310 + 7) (by decide), xwr_n _ (by omega), fb3.1 (310 + 7) (by decide), fb1.1 (310 + 7) (by decide)]
        · rw [xwr_n _ (by decide), fb5.1 (310 + 7) (by decide), xwr_s]
        · rw [xwr_a _ x2, fb5.1 x x1, xwr_a _ x2, fb3.1 x x1, fb1.1 x x1]
      · have h5 : (xwr B5 (310 + 7) 29 h') 310 12 ≠ 0 := by rw [xwr_a _ (by decide)]; exact yDe_q d
        rw [yPr_d d.2.1, yPq_d h5]
        exact ⟨A5, _, rfl, rfl, yGa_F fa, gb5, Or.inl (yDe_o d rfl rfl rfl (fun j _ _ => by rw [xwr_a _ (by decide)]) (by rw [xwr_a _ (by decide)]))⟩
    · have h3 : (xwr B3 (310 + 7) 28 n') 310 12 ≠ 0 := by rw [xwr_a _ (by decide)]; exact yDe_q d
      have h4 : ∀ q : Int, (xwr (xwr B3 (310 + 7) 28 n') (310 + 7) 29 q) 310 12 ≠ 0 := fun q => by rw [xwr_a _ (by decide)]; exact h3
      rw [tw_d d.2.1, xB_s, tn_d d.2.1, xB2_s, yPr_d d.2.1, num3_d h3, xB2_s, yPq_d (h4 _)]
      exact ⟨A3, _, rfl, rfl, yGa_t (yGa_F fa1) (yGa_F fa3), yGb_w gb3 _ (by unfold yOwn; omega), Or.inl (yDe_o d rfl rfl rfl (fun j _ _ => by rw [xwr_a _ (by decide), xwr_a _ (by decide)]) (by rw [xwr_a _ (by decide), xwr_a _ (by decide)]))⟩
  · have h1 := yDe_q d
    have h2 : ∀ q : Int, (xwr B1 (310 + 7) 28 q) 310 12 ≠ 0 := fun q => by rw [xwr_a _ (by decide)]; exact h1
    have h3 : ∀ q r : Int, (xwr (xwr B1 (310 + 7) 28 q) (310 + 7) 29 r) 310 12 ≠ 0 := fun q r => by rw [xwr_a _ (by decide)]; exact h2 q
    rw [tw_d d.2.1, xB_s, tn_d d.2.1, xB2_s, tw_d d.2.1, xB_s, tn_d d.2.1, xB2_s, yPr_d d.2.1, num3_d h1, xB2_s, num3_d (h2 _), xB2_s, yPq_d (h3 _ _)]
    exact ⟨A1, _, rfl, rfl, yGa_F fa1, yGb_w (yGb_w (yGb_F fb1) _ (by unfold yOwn; omega)) _ (by unfold yOwn; omega), Or.inl (yDe_o d rfl rfl rfl (fun j _ _ => by rw [xwr_a _ (by decide), xwr_a _ (by decide)]) (by rw [xwr_a _ (by decide), xwr_a _ (by decide)]))⟩
theorem asks_n {f : Int → Int} {L a e k kk code : Int} {A B : xM} (al : yAl f L a e k A B) (W : yW kk code) (y : ¬ yis f a e k (xstr kk.toNat) = true) : fQ_asks 310 code B = some (fQ_fails 310 1 B) := by
  unfold fQ_asks fQ_takes
  rw [is_q al W, if_neg y, if_pos (show (0 : Int) = 0 from rfl), xB_s]
  show (if (0 : Int) = 0 then some (fQ_fails 310 1 B) else some B) = _
  rw [if_pos (show (0 : Int) = 0 from rfl)]
theorem line_s {f : Int → Int} {L a e k : Int} {V A B : xM} (al : yAl f L a e k A B) (D : yDt V A B) (p2 : 2 ≤ V 0 0) (zl : V 0 2 ≠ 0) : ∃ A' B' : xM, fReader_readLine 2 A = some A' ∧ fQ_line 310 B = some B' ∧ yLo f L a V A B A' B' := by
  have c2 : A (2 + 3) 2 = V 0 2 := xPv_0 D.1 2 (by decide) (by decide)
  have W := D.2.1
  have qT : B (310 + 7) (28 + 2) = A 2 6 := D.2.2.2.1.symm
  have qN : B (310 + 7) (28 + 0) = V 0 0 := D.2.2.1.1.1.2.1
  have qS : B (310 + 7) (28 + 5) = V 0 6 := D.2.2.1.1.1.2.2.2.2.1
  have qU : B (310 + 7) (28 + 6) = V 0 7 := D.2.2.1.1.1.2.2.2.2.2
  have t8 := D.2.2.2.2.2.1
  have hS := W.2.2.2.2.2.2.2.1
  have hU := W.2.2.2.2.2.2.2.2.1
  have one : ¬ (1 : Int) = 0 := by decide
  have zero : (0 : Int) = 0 := rfl
  have a12 := al.2.2.1.1
  have f12 : ¬ (fQ_fails 310 3 B) 310 12 = 0 := by
    have := (fail_s (c := 3) al (by decide)).2.2.2
    rw [this]; decide
  unfold fReader_readLine
  rw [c2, if_neg zl, isW_c (kk := 0) al, xB_s, isW_c (kk := 1) al, xB_s, isW_c (kk := 2) al, xB_s, isW_c (kk := 3) al, xB_s, isW_c (kk := 4) al, xB_s, e_q_line, is_q al yW_0, is_q al yW_2, is_q al yW_3]
  by_cases y0 : yis f a e k (xstr (0 : Int).toNat) = true
  · have y2 := yis_n y0 (show xstr (0 : Int).toNat ≠ xstr (2 : Int).toNat by decide)
    have y3 := yis_n y0 (show xstr (0 : Int).toNat ≠ xstr (3 : Int).toNat by decide)
    rw [if_pos y0, if_neg y2, if_neg y3, if_neg one, if_neg one, hasRead_s B 2 (by decide) (by decide), xB_s, hasRead_s B 0 (by decide) (by decide), xB_s, qT, qN]
    by_cases u : A 2 6 < V 0 0
    · obtain ⟨B1, A', B', g1, g2, g3, g4⟩ := cell_s al D p2 y0 u
      rw [if_neg (show ¬ A 2 6 = V 0 0 by omega), if_pos zero, if_pos zero, if_pos a12, if_neg one, g1, xB_s, if_neg one, g2, xB_s, g3, xB_s]
      exact ⟨A', B', rfl, rfl, g4⟩
    · obtain ⟨A', g1, g2⟩ := cell_f al D u
      rw [if_pos (show A 2 6 = V 0 0 by omega), if_neg f12, g1, xB_s]
      exact ⟨A', _, rfl, rfl, g2⟩
  · rw [if_neg y0, if_pos zero, if_pos zero]
    by_cases y2 : yis f a e k (xstr (2 : Int).toNat) = true
    · have y1 := yis_n y2 (show xstr (2 : Int).toNat ≠ xstr (1 : Int).toNat by decide)
      have y3 := yis_n y2 (show xstr (2 : Int).toNat ≠ xstr (3 : Int).toNat by decide)
      rw [if_neg y1, if_pos y2, if_neg y3, if_pos zero, if_neg one, if_neg one, hasRead_s B 5 (by decide) (by decide), xB_s, qS]
      by_cases u : V 0 6 < 8
      · obtain ⟨B1, A', B', g1, g2, g3, g4⟩ := sleeps_s al D p2 y2 u
        rw [if_neg (show ¬ V 0 6 = 8 by omega), if_pos zero, if_pos a12, if_pos zero, if_neg one, g1, xB_s, if_pos zero, if_neg one, g2, xB_s, g3, xB_s]
        exact ⟨A', B', rfl, rfl, g4⟩
      · obtain ⟨A', g1, g2⟩ := sleeps_f al D u
        rw [if_pos (show V 0 6 = 8 by omega), if_neg f12, g1, xB_s]
        exact ⟨A', _, rfl, rfl, g2⟩
    · rw [if_neg y2]
      by_cases y3 : yis f a e k (xstr (3 : Int).toNat) = true
      · have y1 := yis_n y3 (show xstr (3 : Int).toNat ≠ xstr (1 : Int).toNat by decide)
        rw [if_neg y1, if_pos y3, if_pos zero, if_pos zero, if_neg one, if_pos zero, if_neg one, hasRead_s B 6 (by decide) (by decide), xB_s, qU]
        by_cases u : V 0 7 < 8
        · obtain ⟨B1, A', B', g1, g2, g3, g4⟩ := soup_s al D p2 y3 u
          rw [if_neg (show ¬ V 0 7 = 8 by omega), if_pos a12, if_pos zero, if_pos zero, if_neg one, g1, xB_s, if_pos zero, if_pos zero, g2, xB_s, g3, xB_s]
          exact ⟨A', B', rfl, rfl, g4⟩
        · obtain ⟨A', g1, g2⟩ := soup_f al D u
          rw [if_pos (show V 0 7 = 8 by omega), if_neg f12, g1, xB_s]
          exact ⟨A', _, rfl, rfl, g2⟩
      · rw [if_neg y3]
        by_cases y1 : yis f a e k (xstr (1 : Int).toNat) = true
        · obtain ⟨B1, A', B', g1, g2, g3, g4⟩ := quarrel_s al D p2 y1
          rw [if_pos y1, if_neg one, if_pos zero, if_pos zero, if_pos a12, if_pos zero, if_pos zero, if_pos zero, g1, xB2_s, if_neg one, g2, xB_s, g3, xB_s]
          exact ⟨A', B', rfl, rfl, g4⟩
        · obtain ⟨-, -, -, tq, -⟩ := word_n al yW_1 y1
          rw [if_neg y1, if_pos zero, if_pos zero, if_pos zero, if_pos zero, if_pos zero, if_pos a12, if_pos zero, if_pos zero, if_pos zero, tq, xB2_s, if_pos zero]
          by_cases y4 : yis f a e k (xstr (4 : Int).toNat) = true
          · obtain ⟨A', B', g1, g2, g3⟩ := plan_l al D p2 y4
            rw [if_pos y4, if_neg one, g1, xB_s]
            exact ⟨A', B', rfl, g2, g3⟩
          · obtain ⟨d, fa2, fb2, c12⟩ := fail_s (c := 1) al (by decide)
            have h := yDe_q d
            rw [if_neg y4, if_pos zero, asks_n al yW_4 y4, xB_s, hasRead_s _ 1 (by decide) (by decide), xB_s, num2_d h, xB2_s, here_d h, xB2_s, if_pos (good_1 h)]
            exact ⟨_, _, rfl, rfl, yGa_F fa2, yGb_F fb2, Or.inl d⟩
end
