/-! both readers in step -/
noncomputable section
def yTp (f : Int → Int) (L : Int) (A B : xM) : Prop := A 3 1 = L ∧ A 4 = f ∧ B 310 6 = L ∧ (∀ j : Int, 0 ≤ j → j < 1600 → B 315 j = f j) ∧ 0 ≤ L ∧ L ≤ 1600
def yAl (f : Int → Int) (L a e k : Int) (A B : xM) : Prop := yTp f L A B ∧ (A 2 7 = 0 ∧ A 2 2 = a ∧ A 2 3 = e ∧ A 2 4 = k) ∧ (B 310 12 = 0 ∧ B 310 9 = a ∧ B 310 7 = e ∧ B 310 8 = k) ∧ (k = 2 → A 2 5 = ycv (yvl f a (e - a).toNat) ∧ B 310 10 = yvl f a (e - a).toNat) ∧ (k = 1 → B 310 11 = ywd f a (e - a).toNat) ∧ ∃ n : Int, (0 ≤ n ∧ A 2 8 = -1) ∧ yTk f L n a e k
def yDa (A : xM) : Prop := A 2 7 ≠ 0 ∧ 0 ≤ A 2 2 ∧ A 2 2 ≤ A 2 3 ∧ A 2 3 ≤ 1600
def yDe (f : Int → Int) (L : Int) (A B : xM) : Prop := yTp f L A B ∧ yDa A ∧ A 2 7 = B 310 12 ∧ A 2 8 = B 310 13
def yFa (A A' : xM) : Prop := (∀ x : Int, x ≠ 2 → A' x = A x) ∧ A' 2 6 = A 2 6
def yFb (B B' : xM) : Prop := (∀ x : Int, x ≠ 310 → B' x = B x) ∧ ∀ j : Int, (j < 7 ∨ 13 < j) → B' 310 j = B 310 j
theorem yFa_r (A : xM) : yFa A A := ⟨fun _ _ => rfl, rfl⟩
theorem yFb_r (A : xM) : yFb A A := ⟨fun _ _ => rfl, fun _ _ => rfl⟩
theorem yFa_t {A B C : xM} (h : yFa A B) (k : yFa B C) : yFa A C := ⟨fun x hx => (k.1 x hx).trans (h.1 x hx), k.2.trans h.2⟩
theorem yFb_t {A B C : xM} (h : yFb A B) (k : yFb B C) : yFb A C := ⟨fun x hx => (k.1 x hx).trans (h.1 x hx), fun j hj => (k.2 j hj).trans (h.2 j hj)⟩
theorem yTp_f {f : Int → Int} {L : Int} {A B A' B' : xM} (h : yTp f L A B) (a3 : A' 3 = A 3) (a4 : A' 4 = A 4) (b6 : B' 310 6 = B 310 6) (b5 : B' 315 = B 315) : yTp f L A' B' := by
  unfold yTp at h ⊢
  rw [a3, a4, b6, b5]
  exact h
theorem yTp_F {f : Int → Int} {L : Int} {A B A' B' : xM} (h : yTp f L A B) (ha : yFa A A') (hb : yFb B B') : yTp f L A' B' := yTp_f h (ha.1 3 (by decide)) (ha.1 4 (by decide)) (hb.2 6 (by decide)) (hb.1 315 (by decide))
theorem yAl_o {f : Int → Int} {L a e k : Int} {A B A' B' : xM} (h : yAl f L a e k A B) (a2 : ∀ j : Int, 2 ≤ j → j ≤ 8 → j ≠ 6 → A' 2 j = A 2 j) (a3 : A' 3 = A 3) (a4 : A' 4 = A 4) (b1 : ∀ j : Int, 6 ≤ j → j ≤ 13 → B' 310 j = B 310 j) (b5 : B' 315 = B 315) : yAl f L a e k A' B' := by
  obtain ⟨t, h1, h2, h3, h4, n, n0, q⟩ := h
  refine ⟨yTp_f t a3 a4 (b1 6 (by decide) (by decide)) b5, ?_, ?_, ?_, ?_, n, ⟨n0.1, by rw [a2 8 (by decide) (by decide) (by decide)]; exact n0.2⟩, q⟩
  · rw [a2 7 (by decide) (by decide) (by decide), a2 2 (by decide) (by decide) (by decide), a2 3 (by decide) (by decide) (by decide), a2 4 (by decide) (by decide) (by decide)]; exact h1
  · rw [b1 12 (by decide) (by decide), b1 9 (by decide) (by decide), b1 7 (by decide) (by decide), b1 8 (by decide) (by decide)]; exact h2
  · rw [a2 5 (by decide) (by decide) (by decide), b1 10 (by decide) (by decide)]; exact h3
  · rw [b1 11 (by decide) (by decide)]; exact h4
theorem yDe_o {f : Int → Int} {L : Int} {A B A' B' : xM} (h : yDe f L A B) (a2 : A' 2 = A 2) (a3 : A' 3 = A 3) (a4 : A' 4 = A 4) (b1 : ∀ j : Int, 6 ≤ j → j ≤ 13 → B' 310 j = B 310 j) (b5 : B' 315 = B 315) : yDe f L A' B' := by
  obtain ⟨t, h1, h2, h3⟩ := h
  refine ⟨yTp_f t a3 a4 (b1 6 (by decide) (by decide)) b5, ?_, ?_, ?_⟩
  · unfold yDa at h1 ⊢; rw [a2]; exact h1
  · rw [a2, b1 12 (by decide) (by decide)]; exact h2
  · rw [a2, b1 13 (by decide) (by decide)]; exact h3
theorem yAl_rg {f : Int → Int} {L a e k : Int} {A B : xM} (h : yAl f L a e k A B) : 0 ≤ a ∧ a ≤ e ∧ e ≤ L ∧ L ≤ 1600 ∧ (k ≠ 0 → a < e) ∧ 0 ≤ k ∧ k ≤ 4 := by
  obtain ⟨t, -, -, -, -, n, n0, q⟩ := h
  have r := yTk_rg q
  have := t.2.2.2.2
  omega
theorem adv_s {f : Int → Int} {L a e k : Int} {A B : xM} (h : yAl f L a e k A B) : ∃ (A' B' : xM) (a' e' k' : Int), fReader_advance 2 A = some A' ∧ fQ_next 310 B = some B' ∧ yAl f L a' e' k' A' B' ∧ e ≤ a' ∧ yFa A A' ∧ yFb B B' := by
  have r := yAl_rg h
  obtain ⟨t, h1, h2, -, -, nn, nn0, -⟩ := h
  obtain ⟨A', e1, a', e', k', p1, p2, p3, p4, p5⟩ := adv_c (f := f) (L := L) (n := e) (m := A) r.2.2.2.1 h1.1 (by omega) r.2.2.1 h1.2.2.1 t.1 t.2.1
  obtain ⟨B', e2, a'', e'', k'', q1, q2, q3, q4, q5, q6⟩ := next_q (f := f) (L := L) (n := e) (m := B) r.2.2.2.1 (by omega) r.2.2.1 h2.2.2.1 t.2.2.1 t.2.2.2.1
  obtain ⟨u1, u2, u3⟩ := yTk_1 q1 p1
  subst u1
  subst u2
  subst u3
  have fa : yFa A A' := ⟨p4, p5 6 (by decide)⟩
  have fb : yFb B B' := ⟨q5, fun j hj => q6 j (by omega)⟩
  exact ⟨A', B', _, _, _, e1, e2, ⟨yTp_F t fa fb, ⟨by rw [p5 7 (by decide)]; exact h1.1, p2⟩, ⟨by rw [q6 12 (by decide)]; exact h2.1, q2⟩, fun x => ⟨p3 x, q3 x⟩, q4, e, ⟨by omega, by rw [p5 8 (by decide)]; exact nn0.2⟩, p1⟩, (yTk_rg p1).1, fa, fb⟩
theorem fail_s {f : Int → Int} {L a e k c : Int} {A B : xM} (h : yAl f L a e k A B) (hc : c ≠ 0) : yDe f L (fReader_fail 2 c A) (fQ_fails 310 c B) ∧ yFa A (fReader_fail 2 c A) ∧ yFb B (fQ_fails 310 c B) ∧ (fQ_fails 310 c B) 310 12 = c := by
  have r := yAl_rg h
  obtain ⟨t, h1, h2, -⟩ := h
  unfold fReader_fail fQ_fails
  rw [if_pos h1.1, if_pos h2.1]
  have fa : yFa A (xwr (xwr A 2 7 c) 2 8 ((xwr A 2 7 c) 2 2)) := ⟨fun x hx => by rw [xwr_a _ hx, xwr_a _ hx], by rw [xwr_n _ (by decide), xwr_n _ (by decide)]⟩
  have fb : yFb B (xwr (xwr B 310 12 c) 310 13 ((xwr B 310 12 c) 310 9)) := ⟨fun x hx => by rw [xwr_a _ hx, xwr_a _ hx], fun j hj => by rw [xwr_n _ (by omega), xwr_n _ (by omega)]⟩
  have b12 : (xwr (xwr B 310 12 c) 310 13 ((xwr B 310 12 c) 310 9)) 310 12 = c := by rw [xwr_n _ (by decide), xwr_s]
  refine ⟨⟨yTp_F t fa fb, ⟨?_, ?_, ?_, ?_⟩, ?_, ?_⟩, fa, fb, b12⟩
  · rw [xwr_n _ (by decide), xwr_s]; exact hc
  · rw [xwr_n _ (by decide), xwr_n _ (by decide), h1.2.1]; omega
  · rw [xwr_n _ (by decide), xwr_n _ (by decide), xwr_n _ (by decide), xwr_n _ (by decide), h1.2.1, h1.2.2.1]; omega
  · rw [xwr_n _ (by decide), xwr_n _ (by decide), h1.2.2.1]; omega
  · rw [b12, xwr_n _ (by decide), xwr_s]
  · rw [xwr_s, xwr_s, xwr_n _ (by decide), xwr_n _ (by decide), h1.2.1, h2.2.1]
/-! words -/
def yis (f : Int → Int) (a e k : Int) (w : List Int) : Bool := decide (k = 1) && decide (yrl f a (e - a).toNat = w.reverse)
def yW (kk code : Int) : Prop := (∀ c : Int, c ∈ xstr kk.toNat → 97 ≤ c ∧ c ≤ 122) ∧ (xstr kk.toNat).length ≤ 12 ∧ yD (xstr kk.toNat).reverse = code
theorem isW_L {A : xM} {a e kk : Int} (h2 : A 2 2 = a) (a0 : 0 ≤ a) (he : e ≤ 1600) (hl : e - a = ((xstr kk.toNat).length : Int)) : ∀ (n g i : Nat), n < g → i + n = (xstr kk.toNat).length → xP (fReader_isWord_L28 g 2 kk (i : Int) A) (fun v => (v = 1 ∧ ∀ j : Nat, i ≤ j → j < (xstr kk.toNat).length → A 4 (a + j) = (xstr kk.toNat).getD j 0) ∨ (v = 0 ∧ ¬ ∀ j : Nat, i ≤ j → j < (xstr kk.toNat).length → A 4 (a + j) = (xstr kk.toNat).getD j 0))
  | _, 0, _, hg, _ => absurd hg (Nat.not_lt_zero _)
  | 0, g + 1, i, _, hi => by
    rw [fReader_isWord_L28, if_neg (by omega)]
    exact xP_some (Or.inl ⟨rfl, fun j j0 j1 => absurd j1 (by omega)⟩)
  | n + 1, g + 1, i, hg, hi => by
    rw [fReader_isWord_L28, if_pos (by omega), h2, xw32_id (x := a + (i : Int)) (by omega) (by omega), xA_p (by omega), xA_p (by omega), xw32_id (x := (i : Int) + 1) (by omega) (by omega)]
    by_cases x : A (2 + 1 + 1) (a + (i : Int)) = (xstr kk.toNat).getD (i : Int).toNat 0
    · rw [if_pos x]
      rw [Int.toNat_natCast] at x
      refine xP_mono (isW_L h2 a0 he hl n g (i + 1) (by omega) (by omega)) ?_
      rintro v (⟨e1, e2⟩ | ⟨e1, e2⟩)
      · refine Or.inl ⟨e1, fun j j0 j1 => ?_⟩
        by_cases z : j = i
        · rw [z]; exact x
        · exact e2 j (by omega) j1
      · exact Or.inr ⟨e1, fun z => e2 (fun j j0 j1 => z j (by omega) j1)⟩
    · rw [if_neg x]
      rw [Int.toNat_natCast] at x
      exact xP_some (Or.inr ⟨rfl, fun z => x (z i (Nat.le_refl _) (by omega))⟩)
theorem isW_c {f : Int → Int} {L a e k kk : Int} {A B : xM} (h : yAl f L a e k A B) : fReader_isWord 2 kk A = some (if yis f a e k (xstr kk.toNat) = true then 1 else 0) := by
  have r := yAl_rg h
  obtain ⟨t, h1, -⟩ := h
  unfold fReader_isWord yis
  rw [h1.2.1, h1.2.2.1, h1.2.2.2, xw32_id (x := e - a) (by omega) (by omega)]
  by_cases x : k = 1
  · rw [if_pos x, decide_eq_true x, Bool.true_and]
    by_cases y : e - a = ((xstr kk.toNat).length : Int)
    · rw [if_pos y]
      apply xP_e
      have ln : (e - a).toNat = (xstr kk.toNat).reverse.length := by rw [List.length_reverse]; omega
      have iff := yrl_iff (f := f) (a := a) (xstr kk.toNat).reverse
      rw [List.reverse_reverse, ← ln] at iff
      refine xP_mono (isW_L h1.2.1 r.1 (by omega) y (xstr kk.toNat).length 20001 0 (by omega) (by omega)) ?_
      rintro v (⟨e1, e2⟩ | ⟨e1, e2⟩)
      · rw [e1, if_pos (decide_eq_true (iff.mpr (fun i hi => by rw [← t.2.1]; exact e2 i (Nat.zero_le _) (by omega))))]
      · rw [e1, if_neg (fun z => e2 (fun j _ j1 => by rw [t.2.1]; exact iff.mp (of_decide_eq_true z) j (by omega)))]
    · rw [if_neg y, if_neg (fun z => y (by
        have := congrArg List.length (of_decide_eq_true z)
        rw [yrl_len, List.length_reverse] at this
        omega))]
  · rw [if_neg x, decide_eq_false x, Bool.false_and, if_neg (by decide)]
theorem is_q {f : Int → Int} {L a e k kk code : Int} {A B : xM} (h : yAl f L a e k A B) (W : yW kk code) : fQ_is 310 code B = if yis f a e k (xstr kk.toNat) = true then 1 else 0 := by
  have r := yAl_rg h
  obtain ⟨t, -, h2, -, h4, n, n0, q⟩ := h
  obtain ⟨w1, w2, w3⟩ := W
  unfold fQ_is yis
  rw [if_pos h2.1, h2.2.2.2]
  by_cases x : k = 1
  · rw [if_pos x, decide_eq_true x, Bool.true_and, h4 x]
    have mem : ∀ c : Int, c ∈ yrl f a (e - a).toNat → yLt c := fun c hc => by
      obtain ⟨j, j0, j1, rfl⟩ := yrl_mem _ hc
      have sp : ySp yLt f L a e := by
        rcases q.2 with z | ⟨-, -, z | z | z⟩
        · omega
        · exact z.2
        · omega
        · omega
      exact sp.2.2.1 j j0 (by omega)
    have mem2 : ∀ c : Int, c ∈ (xstr kk.toNat).reverse → yLt c := fun c hc => w1 c (List.mem_reverse.mp hc)
    by_cases y : (e - a).toNat ≤ 12
    · have hw : ywd f a (e - a).toNat = yD (yrl f a (e - a).toNat) := by unfold ywd; rw [if_pos y]
      rw [hw, ← w3]
      by_cases z : yrl f a (e - a).toNat = (xstr kk.toNat).reverse
      · rw [if_pos ((xcmp_0 _ _).mpr (by rw [z])), if_pos (decide_eq_true z)]
      · rw [if_neg (fun u => z (yD_inj _ _ mem mem2 ((xcmp_0 _ _).mp u))), if_neg (fun u => z (of_decide_eq_true u))]
    · have hw : ywd f a (e - a).toNat = -1 := by unfold ywd; rw [if_neg y]
      have p := (yD_rg _ mem2).1
      rw [hw, ← w3, if_neg (fun u => by have := (xcmp_0 _ _).mp u; omega), if_neg (fun u => y (by
        have := congrArg List.length (of_decide_eq_true u)
        rw [yrl_len, List.length_reverse] at this
        omega))]
  · rw [if_neg x, decide_eq_false x, Bool.false_and, if_neg (by decide)]
/-! a fault stands: the class -/
theorem adv_d {A : xM} (h : yDa A) : fReader_advance 2 A = some A := by unfold fReader_advance; rw [if_neg h.1]
theorem fail_d {A : xM} (h : yDa A) (c : Int) : fReader_fail 2 c A = A := by unfold fReader_fail; rw [if_neg h.1]
theorem isW_d {A : xM} (h : yDa A) (kk : Int) : ∃ v : Int, fReader_isWord 2 kk A = some v ∧ (v = 0 ∨ v = 1) := by
  obtain ⟨-, h0, h1, h2⟩ := h
  unfold fReader_isWord
  by_cases x : A 2 4 = 1
  · rw [if_pos x, xw32_id (x := A 2 3 - A 2 2) (by omega) (by omega)]
    by_cases y : A 2 3 - A 2 2 = ((xstr kk.toNat).length : Int)
    · rw [if_pos y]
      obtain ⟨v, e1, e2⟩ := isW_L (kk := kk) (A := A) (a := A 2 2) (e := A 2 3) rfl h0 h2 y (xstr kk.toNat).length 20001 0 (by omega) (by omega)
      exact ⟨v, e1, e2.elim (fun z => Or.inr z.1) (fun z => Or.inl z.1)⟩
    · rw [if_neg y]; exact ⟨0, rfl, Or.inl rfl⟩
  · rw [if_neg x]; exact ⟨0, rfl, Or.inl rfl⟩
theorem tw_d {A : xM} (h : yDa A) (kk : Int) : fReader_takeWord 2 kk A = some A := by
  obtain ⟨v, e, -⟩ := isW_d h kk
  unfold fReader_takeWord
  rw [e, xB_s, fail_d h, adv_d h, xB_s]
  split <;> rfl
theorem tn_d {A : xM} (h : yDa A) (lo hi : Int) : fReader_takeNumber 2 lo hi A = some (A 2 5, A) := by
  unfold fReader_takeNumber
  rw [fail_d h, fail_d h, adv_d h, xB_s]
  (repeat' split) <;> rfl
theorem ts_d {A : xM} (h : yDa A) : fReader_takeSign 2 A = some A := by
  unfold fReader_takeSign
  rw [fail_d h, adv_d h, xB_s]
  split <;> rfl
theorem tk_d {A : xM} (h : yDa A) : ∃ v : Int, fReader_takeKind 2 A = some (v, A) := by
  obtain ⟨v1, e1, -⟩ := isW_d h 18
  obtain ⟨v2, e2, -⟩ := isW_d h 19
  obtain ⟨v3, e3, -⟩ := isW_d h 20
  obtain ⟨v4, e4, -⟩ := isW_d h 21
  have l : ∀ x : Int, fReader_takeKind_L55 2 x A = some (x, A) := fun x => by
    unfold fReader_takeKind_L55
    rw [fail_d h, adv_d h, xB_s]
    split <;> rfl
  unfold fReader_takeKind
  rw [e1, e2, e3, e4, xB_s, xB_s, xB_s, xB_s, l, l, l, fail_d h, adv_d h, xB_s]
  (repeat' split) <;> exact ⟨_, rfl⟩
/-! a fault stands: the reference -/
theorem is_d {B : xM} (h : B 310 12 ≠ 0) (c : Int) : fQ_is 310 c B = 0 := by unfold fQ_is; rw [if_neg h]
theorem fails_d {B : xM} (h : B 310 12 ≠ 0) (c : Int) : fQ_fails 310 c B = B := by unfold fQ_fails; rw [if_neg h]
theorem takes_d {B : xM} (h : B 310 12 ≠ 0) (c : Int) : fQ_takes 310 c B = some (0, B) := by unfold fQ_takes; rw [is_d h, if_pos rfl]
theorem asks_d {B : xM} (h : B 310 12 ≠ 0) (c : Int) : fQ_asks 310 c B = some B := by unfold fQ_asks; rw [takes_d h, xB_s]; show some (fQ_fails 310 1 B) = some B; rw [fails_d h]
theorem num2_d {B : xM} (h : B 310 12 ≠ 0) (lo hi : Int) : fQ_number2 310 lo hi B = some (lo, B) := by unfold fQ_number2; rw [if_neg h]
theorem num3_d {B : xM} (h : B 310 12 ≠ 0) (c lo hi : Int) : fQ_number3 310 c lo hi B = some (lo, B) := by unfold fQ_number3; rw [asks_d h, xB_s, num2_d h]; rfl
/-! one token taken, on both sides -/
def yRs (f : Int → Int) (L a : Int) (A B A' B' : xM) : Prop := yFa A A' ∧ yFb B B' ∧ ((∃ a' e' k' : Int, a < a' ∧ yAl f L a' e' k' A' B') ∨ yDe f L A' B')
theorem word_t {f : Int → Int} {L a e k kk code : Int} {A B : xM} (h : yAl f L a e k A B) (W : yW kk code) (y : yis f a e k (xstr kk.toNat) = true) : ∃ A' B' : xM, fReader_takeWord 2 kk A = some A' ∧ fQ_next 310 B = some B' ∧ fQ_takes 310 code B = some (1, B') ∧ fQ_asks 310 code B = some B' ∧ yFa A A' ∧ yFb B B' ∧ ∃ a' e' k' : Int, a < a' ∧ yAl f L a' e' k' A' B' := by
  have r := yAl_rg h
  obtain ⟨A', B', a', e', k', e1, e2, al, ea, fa, fb⟩ := adv_s h
  have k1 : k = 1 := by
    unfold yis at y
    exact of_decide_eq_true (Bool.and_eq_true_iff.mp y).1
  have t : fQ_takes 310 code B = some (1, B') := by
    unfold fQ_takes
    rw [is_q h W, if_pos y, if_neg (by decide), e2]; rfl
  refine ⟨A', B', ?_, e2, t, ?_, fa, fb, a', e', k', by omega, al⟩
  · unfold fReader_takeWord
    rw [isW_c h, xB_s, if_pos y, if_neg (by decide), e1]; rfl
  · unfold fQ_asks
    rw [t]; rfl
theorem word_n {f : Int → Int} {L a e k kk code : Int} {A B : xM} (h : yAl f L a e k A B) (W : yW kk code) (y : ¬ yis f a e k (xstr kk.toNat) = true) : ∃ A' B' : xM, fReader_takeWord 2 kk A = some A' ∧ fQ_takes 310 code B = some (0, B) ∧ fQ_asks 310 code B = some B' ∧ yFa A A' ∧ yFb B B' ∧ yDe f L A' B' := by
  obtain ⟨d, fa, fb, -⟩ := fail_s (c := 1) h (by decide)
  have t : fQ_takes 310 code B = some (0, B) := by
    unfold fQ_takes
    rw [is_q h W, if_neg y, if_pos rfl]
  refine ⟨_, _, ?_, t, ?_, fa, fb, d⟩
  · unfold fReader_takeWord
    rw [isW_c h, xB_s, if_neg y, if_pos rfl, adv_d d.2.1]; rfl
  · unfold fQ_asks
    rw [t]; rfl
theorem word_s {f : Int → Int} {L a e k kk code : Int} {A B : xM} (h : yAl f L a e k A B) (W : yW kk code) : ∃ A' B' : xM, fReader_takeWord 2 kk A = some A' ∧ fQ_asks 310 code B = some B' ∧ yRs f L a A B A' B' := by
  by_cases y : yis f a e k (xstr kk.toNat) = true
  · obtain ⟨A', B', e1, -, -, e2, fa, fb, al⟩ := word_t h W y
    exact ⟨A', B', e1, e2, fa, fb, Or.inl al⟩
  · obtain ⟨A', B', e1, -, e2, fa, fb, de⟩ := word_n h W y
    exact ⟨A', B', e1, e2, fa, fb, Or.inr de⟩
theorem num_s {f : Int → Int} {L a e k lo hi : Int} {A B : xM} (h : yAl f L a e k A B) (l0 : 0 ≤ lo) (h1 : hi < 1000) : ∃ (v w : Int) (A' B' : xM), fReader_takeNumber 2 lo hi A = some (v, A') ∧ fQ_number2 310 lo hi B = some (w, B') ∧ yFa A A' ∧ yFb B B' ∧ ((v = w ∧ lo ≤ v ∧ v ≤ hi ∧ ∃ a' e' k' : Int, a < a' ∧ yAl f L a' e' k' A' B') ∨ yDe f L A' B') := by
  have r := yAl_rg h
  have h2 := h.2.1
  have h3 := h.2.2.1
  unfold fReader_takeNumber fQ_number2
  rw [if_pos h3.1, h2.2.2.2, h3.2.2.2]
  by_cases x : k = 2
  · obtain ⟨v1, v2⟩ := h.2.2.2.1 x
    rw [if_pos x, if_pos x, v1, v2, fQ_in_s]
    simp only [if10]
    by_cases y : lo ≤ yvl f a (e - a).toNat ∧ yvl f a (e - a).toNat ≤ hi
    · have c : ycv (yvl f a (e - a).toNat) = yvl f a (e - a).toNat := by unfold ycv; rw [if_pos (by omega)]
      obtain ⟨A', B', a', e', k', e1, e2, al, ea, fa, fb⟩ := adv_s h
      rw [c, if_neg (by omega), if_neg (by omega), if_neg (not_not_intro y), e1, e2]
      exact ⟨_, _, A', B', rfl, rfl, fa, fb, Or.inl ⟨rfl, y.1, y.2, a', e', k', by omega, al⟩⟩
    · obtain ⟨d, fa, fb, -⟩ := fail_s (c := 2) h (by decide)
      rw [if_pos y, adv_d d.2.1]
      have : ycv (yvl f a (e - a).toNat) < lo ∨ hi < ycv (yvl f a (e - a).toNat) := by unfold ycv; split <;> omega
      rcases this with z | z
      · rw [if_pos z]; exact ⟨_, _, _, _, rfl, rfl, fa, fb, Or.inr d⟩
      · by_cases z2 : ycv (yvl f a (e - a).toNat) < lo
        · rw [if_pos z2]; exact ⟨_, _, _, _, rfl, rfl, fa, fb, Or.inr d⟩
        · rw [if_neg z2, if_pos z]; exact ⟨_, _, _, _, rfl, rfl, fa, fb, Or.inr d⟩
  · obtain ⟨d, fa, fb, -⟩ := fail_s (c := 1) h (by decide)
    rw [if_neg x, if_neg x, adv_d d.2.1]
    exact ⟨_, _, _, _, rfl, rfl, fa, fb, Or.inr d⟩
theorem sign_s {f : Int → Int} {L a e k : Int} {A B : xM} (h : yAl f L a e k A B) : ∃ A' B' : xM, fReader_takeSign 2 A = some A' ∧ fQ_ends 310 B = some B' ∧ yRs f L a A B A' B' := by
  have r := yAl_rg h
  have h2 := h.2.1
  have h3 := h.2.2.1
  unfold fReader_takeSign fQ_ends
  rw [h2.2.2.2, h3.2.2.2]
  by_cases x : k = 3
  · obtain ⟨A', B', a', e', k', e1, e2, al, ea, fa, fb⟩ := adv_s h
    rw [if_pos x, if_pos x, if_pos h3.1, e1, e2]
    exact ⟨A', B', rfl, rfl, fa, fb, Or.inl ⟨a', e', k', by omega, al⟩⟩
  · obtain ⟨d, fa, fb, c⟩ := fail_s (c := 1) h (by decide)
    rw [if_neg x, if_neg x, adv_d d.2.1, if_neg (by rw [c]; decide)]
    exact ⟨_, _, rfl, rfl, fa, fb, Or.inr d⟩
/-- a word and a number -/
theorem wnum_s {f : Int → Int} {L a e k lo hi kk code : Int} {A B : xM} (h : yAl f L a e k A B) (W : yW kk code) (l0 : 0 ≤ lo) (h1 : hi < 1000) : ∃ (v w : Int) (A1 A' B' : xM), fReader_takeWord 2 kk A = some A1 ∧ fReader_takeNumber 2 lo hi A1 = some (v, A') ∧ fQ_number3 310 code lo hi B = some (w, B') ∧ yFa A A' ∧ yFb B B' ∧ yFa A A1 ∧ ((v = w ∧ lo ≤ v ∧ v ≤ hi ∧ ∃ a' e' k' : Int, a < a' ∧ yAl f L a' e' k' A' B') ∨ yDe f L A' B') := by
  obtain ⟨A1, B1, e1, e2, fa, fb, u⟩ := word_s h W
  rcases u with ⟨a', e', k', l, al⟩ | d
  · obtain ⟨v, w, A2, B2, e3, e4, fa2, fb2, u2⟩ := num_s al l0 h1
    refine ⟨v, w, A1, A2, B2, e1, e3, ?_, yFa_t fa fa2, yFb_t fb fb2, fa, ?_⟩
    · unfold fQ_number3; rw [e2, xB_s, e4]; rfl
    · rcases u2 with ⟨p, q, s, a2, e2', k2, l2, al2⟩ | d2
      · exact Or.inl ⟨p, q, s, a2, e2', k2, by omega, al2⟩
      · exact Or.inr d2
  · have h12 : B1 310 12 ≠ 0 := by rw [← d.2.2.1]; exact d.2.1.1
    refine ⟨A1 2 5, lo, A1, A1, B1, e1, tn_d d.2.1 _ _, ?_, fa, fb, fa, Or.inr d⟩
    unfold fQ_number3; rw [e2, xB_s, num2_d h12]; rfl
theorem yW_0 : yW 0 63030 := ⟨by decide, by decide, by decide⟩
theorem yW_1 : yW 1 6888374364 := ⟨by decide, by decide, by decide⟩
theorem yW_2 : yW 2 279109036 := ⟨by decide, by decide, by decide⟩
theorem yW_3 : yW 3 385495 := ⟨by decide, by decide, by decide⟩
theorem yW_4 : yW 4 323717 := ⟨by decide, by decide, by decide⟩
theorem yW_5 : yW 5 239339867 := ⟨by decide, by decide, by decide⟩
theorem yW_6 : yW 6 1701829 := ⟨by decide, by decide, by decide⟩
theorem yW_7 : yW 7 4562587 := ⟨by decide, by decide, by decide⟩
theorem yW_8 : yW 8 361240 := ⟨by decide, by decide, by decide⟩
theorem yW_9 : yW 9 13550 := ⟨by decide, by decide, by decide⟩
theorem yW_10 : yW 10 289903041 := ⟨by decide, by decide, by decide⟩
theorem yW_11 : yW 11 240023 := ⟨by decide, by decide, by decide⟩
theorem yW_12 : yW 12 9748424 := ⟨by decide, by decide, by decide⟩
theorem yW_13 : yW 13 6690801 := ⟨by decide, by decide, by decide⟩
theorem yW_14 : yW 14 131638 := ⟨by decide, by decide, by decide⟩
theorem yW_15 : yW 15 555 := ⟨by decide, by decide, by decide⟩
theorem yW_16 : yW 16 3913426 := ⟨by decide, by decide, by decide⟩
theorem yW_17 : yW 17 257 := ⟨by decide, by decide, by decide⟩
theorem yW_18 : yW 18 69867764215 := ⟨by decide, by decide, by decide⟩
theorem yW_19 : yW 19 8691724 := ⟨by decide, by decide, by decide⟩
theorem yW_20 : yW 20 7215046 := ⟨by decide, by decide, by decide⟩
theorem yW_21 : yW 21 82410 := ⟨by decide, by decide, by decide⟩
/-- two words that differ are not both there -/
theorem yis_n {f : Int → Int} {a e k : Int} {w w' : List Int} (h : yis f a e k w = true) (ne : w ≠ w') : ¬ yis f a e k w' = true := fun h' => by
  unfold yis at h h'
  have p := of_decide_eq_true (Bool.and_eq_true_iff.mp h).2
  have q := of_decide_eq_true (Bool.and_eq_true_iff.mp h').2
  rw [p] at q
  exact ne (by rw [← List.reverse_reverse w, q, List.reverse_reverse])
end
