/-! a line, on both sides: sleeps -/
noncomputable section
theorem xwr_w (V : xM) (a i x y : Int) : xwr (xwr V a i x) a i y = xwr V a i y := by
  funext b j
  rw [xwr_at, xwr_at, xwr_at]
  split <;> rfl
theorem xnk_rg (M : xM) (a w c : Int) : ∀ n : Nat, 0 ≤ xnk M a w c n ∧ xnk M a w c n ≤ n
  | 0 => by unfold xnk; omega
  | n + 1 => by
    have ih := xnk_rg M a w c n
    unfold xnk
    split <;> omega
theorem xnk_lo {m M : xM} {a w c : Int} : ∀ n : Nat, (∀ k : Int, 0 ≤ k → k < n → m a (24 * w + 3 * k) = M a (24 * w + 3 * k)) → xnk m a w c n = xnk M a w c n
  | 0, _ => rfl
  | n + 1, h => by
    unfold xnk
    rw [xnk_lo n (fun k k0 k1 => h k k0 (by omega)), h n (by omega) (by omega)]
/-- a sleep more -/
def ySU (V : xM) (c y : Int) : xM := xwr (xwr (xwr V 5 c y) 4 c (V 4 c + 1)) 0 6 (V 0 6 + 1)
theorem ySU_r (V : xM) (c y : Int) : (∀ a i : Int, a ≠ 0 → a ≠ 4 → a ≠ 5 → ySU V c y a i = V a i) ∧ (∀ i : Int, i ≠ 6 → ySU V c y 0 i = V 0 i) ∧ ySU V c y 0 6 = V 0 6 + 1 ∧ (∀ d : Int, ySU V c y 4 d = if d = c then V 4 c + 1 else V 4 d) ∧ (∀ d : Int, ySU V c y 5 d = if d = c then y else V 5 d) := by
  unfold ySU
  refine ⟨fun a i h0 h4 h5 => ?_, fun i h => ?_, xwr_s _ _ _ _, fun d => ?_, fun d => ?_⟩
  · rw [xwr_n _ (by omega), xwr_n _ (by omega), xwr_n _ (by omega)]
  · rw [xwr_n _ (by omega), xwr_n _ (by omega), xwr_n _ (by omega)]
  · rw [xwr_n _ (by omega), xwr_at]
    by_cases e : d = c
    · rw [if_pos ⟨rfl, e⟩, if_pos e]
    · rw [if_neg (fun x => e x.2), if_neg e, xwr_n _ (by omega)]
  · rw [xwr_n _ (by omega), xwr_n _ (by omega), xwr_at]
    by_cases e : d = c
    · rw [if_pos ⟨rfl, e⟩, if_pos e]
    · rw [if_neg (fun x => e x.2), if_neg e]
def ySb (V : xM) (c a b y : Int) : Prop := x32 y ∧ ∀ h : Int, 0 ≤ h → h < 32 → xbt y h = (xbt (V 5 c) h || (decide (a ≤ h) && decide (h ≤ b)))
theorem addSleep_L {V : xM} {p c a b : Int} (c0 : 0 ≤ c) (c1 : c < 9) (a0 : 0 ≤ a) (b1 : b < 24) (n4 : 0 ≤ V 4 c ∧ V 4 c ≤ 100) (n6 : 0 ≤ V 0 6 ∧ V 0 6 ≤ 100) : ∀ (n g : Nat) (i y : Int) (m : xM), n < g → i + n = b + 1 → a ≤ i → xPv m p (xwr V 5 c y) → x32 y → (∀ h : Int, 0 ≤ h → h < 32 → xbt y h = (xbt (V 5 c) h || (decide (a ≤ h) && decide (h < i)))) → xP (fPrison_addSleep_L3 g p c b i m) (fun m' => xF p (p + 10) m m' ∧ ∃ y' : Int, ySb V c a b y' ∧ xPv m' p (ySU V c y'))
  | _, 0, _, _, _, hg, _, _, _, _, _ => absurd hg (Nat.not_lt_zero _)
  | 0, g + 1, i, y, m, _, hi, ai, hv, hx, hy => by
    have z4 : m (p + 4) c = V 4 c := (xPv_1 hv 4 c (by decide) (by decide) c0 c1).trans (xwr_n _ (by omega))
    have z6 : m p 6 = V 0 6 := (xPv_0 hv 6 (by decide) (by decide)).trans (xwr_n _ (by omega))
    rw [fPrison_addSleep_L3, if_pos (by omega), xA_p (by omega), xA_p (by omega), xwr_n (a := p + 4) _ (by omega), z4, z6, xw32_id (by omega) (by omega), xw32_id (by omega) (by omega)]
    refine xP_some ⟨xwr_F (xwr_F (xF_rfl _ _ _) (by omega) (by omega)) (by omega) (by omega), y, ⟨hx, fun h h0 h1 => ?_⟩, xPv_w0 (xPv_w hv 4 c _) 6 _⟩
    rw [hy h h0 h1]
    have : decide (h < i) = decide (h ≤ b) := decide_eq_decide.mpr (by omega)
    rw [this]
  | n + 1, g + 1, i, y, m, hg, hi, ai, hv, hx, hy => by
    have z5 : m (p + 5) c = y := (xPv_1 hv 5 c (by decide) (by decide) c0 c1).trans (xwr_s _ _ _ _)
    rw [fPrison_addSleep_L3, if_neg (by omega), if_pos (by omega), xA_p (by omega), xA_p (by omega), z5, xw32_id (by omega) (by omega), show xor32 y (xshl 1 i) = xad y i from rfl]
    have hv2 := xPv_w hv 5 c (xad y i)
    rw [xwr_w] at hv2
    refine xP_mono (addSleep_L c0 c1 a0 b1 n4 n6 n g (i + 1) (xad y i) _ (by omega) (by omega) (by omega) hv2 (xad_in _ _) (fun h h0 h1 => ?_)) ?_
    · rw [xbt_ad y (by omega) (by omega) h0 h1, hy h h0 h1]
      by_cases e : h = i
      · rw [e]
        have : decide (a ≤ i) = true := decide_eq_true ai
        have t2 : decide (i < i + 1) = true := decide_eq_true (by omega)
        rw [this, t2]
        simp
      · have : decide (h < i + 1) = decide (h < i) := decide_eq_decide.mpr (by omega)
        rw [this, decide_eq_false e, Bool.or_false]
    · rintro m' ⟨f, y', q⟩
      exact ⟨xF_tr (xwr_F (xF_rfl _ _ _) (by omega) (by omega)) f, y', q⟩
theorem addSleep_s {V m : xM} {p c a b : Int} (hv : xPv m p V) (hx : x32 (V 5 c)) (c0 : 0 ≤ c) (c1 : c < 9) (a0 : 0 ≤ a) (ab : a ≤ b) (b1 : b < 24) (n4 : 0 ≤ V 4 c ∧ V 4 c ≤ 100) (n6 : 0 ≤ V 0 6 ∧ V 0 6 ≤ 100) : xP (fPrison_addSleep p c a b m) (fun m' => xF p (p + 10) m m' ∧ ∃ y' : Int, ySb V c a b y' ∧ xPv m' p (ySU V c y')) := by
  have e : xwr V 5 c (V 5 c) = V := by
    funext x j
    rw [xwr_at]
    split
    · next h => rw [h.1, h.2]
    · rfl
  refine addSleep_L c0 c1 a0 b1 n4 n6 (b + 1 - a).toNat 20001 a (V 5 c) m (by omega) (by omega) (Int.le_refl _) (by rw [e]; exact hv) hx (fun h h0 h1 => ?_)
  have : (decide (a ≤ h) && decide (h < a)) = false := by
    rw [Bool.and_eq_false_iff]
    by_cases x : a ≤ h
    · exact Or.inr (decide_eq_false (by omega))
    · exact Or.inl (decide_eq_false x)
  rw [this, Bool.or_false]
theorem ySU_E {V : xM} {c a b y : Int} (W : xWE V) (c0 : 0 ≤ c) (c1 : c < V 0 0) (b1 : b < V 0 1) (S8 : V 0 6 < 8) (hy : ySb V c a b y) : xWE (ySU V c y) := by
  obtain ⟨r1, r0, r6, r4, r5⟩ := ySU_r V c y
  have z1 := fun i => r1 1 i (by decide) (by decide) (by decide)
  have z2 := fun i => r1 2 i (by decide) (by decide) (by decide)
  have z3 := fun i => r1 3 i (by decide) (by decide) (by decide)
  have z6 := fun i => r1 6 i (by decide) (by decide) (by decide)
  have z8 := fun i => r1 8 i (by decide) (by decide) (by decide)
  have z10 := fun i => r1 10 i (by decide) (by decide) (by decide)
  unfold xWE xWF at W ⊢
  rw [r0 0 (by decide), r0 1 (by decide), r0 2 (by decide), r0 3 (by decide), r0 4 (by decide), r0 5 (by decide), r0 7 (by decide), r6]
  refine ⟨⟨W.1.1, W.1.2.1, W.1.2.2.1, W.1.2.2.2.1, fun d d0 d1 => ?_, fun d d0 d1 => by rw [z6]; exact W.1.2.2.2.2.2.1 d d0 d1, fun d d0 d1 => by rw [z8]; exact W.1.2.2.2.2.2.2.1 d d0 d1, W.1.2.2.2.2.2.2.2.1, W.1.2.2.2.2.2.2.2.2.1, fun d d0 d1 => by rw [z10]; exact W.1.2.2.2.2.2.2.2.2.2 d d0 d1⟩, W.2.1, W.2.2.1, W.2.2.2.1, W.2.2.2.2.1, W.2.2.2.2.2.1, W.2.2.2.2.2.2.1, ?_, W.2.2.2.2.2.2.2.2.1, W.2.2.2.2.2.2.2.2.2.1, W.2.2.2.2.2.2.2.2.2.2.1, fun d h d0 d1 h0 h1 hb => ?_, fun d d0 d1 => by rw [z10]; exact W.2.2.2.2.2.2.2.2.2.2.2.2 d d0 d1⟩
  · obtain ⟨q1, q2, q3, q4, q5⟩ := W.1.2.2.2.2.1 d d0 d1
    rw [z1, z2, z3, r5]
    refine ⟨q1, q2, q3, q4, ?_⟩
    split
    · exact hy.1
    · exact q5
  · have := W.2.2.2.2.2.2.2.1
    omega
  · rw [r5] at hb
    split at hb
    · rw [hy.2 h h0 h1, Bool.or_eq_true, Bool.and_eq_true] at hb
      rcases hb with u | ⟨u1, u2⟩
      · next e => exact W.2.2.2.2.2.2.2.2.2.2.2.1 c h c0 (by have := W.1.1; omega) h0 h1 u
      · have := of_decide_eq_true u2
        omega
    · exact W.2.2.2.2.2.2.2.2.2.2.2.1 d h d0 d1 h0 h1 hb
theorem ySU_Q {V m m' : xM} {c a b y : Int} (W : xWE V) (Q : xQ0 m 310 4 V) (c0 : 0 ≤ c) (c1 : c < V 0 0) (hy : ySb V c a b y) (f6 : m' (310 + 6) = m (310 + 6)) (f8 : m' (310 + 8) = m (310 + 8)) (f10 : m' (310 + 10) = m (310 + 10)) (f11 : m' (310 + 11) = m (310 + 11)) (f7 : ∀ j : Int, j ≠ 33 → m' (310 + 7) j = m (310 + 7) j) (f33 : m' (310 + 7) 33 = V 0 6 + 1) (f9 : ∀ j : Int, (j < 96 + 3 * V 0 6 ∨ 98 + 3 * V 0 6 < j) → m' (310 + 9) j = m (310 + 9) j) (k0 : m' (310 + 9) (96 + 3 * V 0 6) = c) (k1 : m' (310 + 9) (96 + 3 * V 0 6 + 1) = a) (k2 : m' (310 + 9) (96 + 3 * V 0 6 + 2) = b) : xQ0 m' 310 4 (ySU V c y) := by
  obtain ⟨r1, r0, r6, r4, r5⟩ := ySU_r V c y
  have hS := W.2.2.2.2.2.2.2.1
  have z := fun a i h0 h4 h5 => r1 a i h0 h4 h5
  have nv : ∀ d s : Int, xnv (ySU V c y) d s = xnv V d s := fun d s => by unfold xnv; rw [r0 0 (by decide), r0 3 (by decide)]
  obtain ⟨⟨⟨a1, a2, a3, a4, a5, a6⟩, q2, q3, q4, q5, q6⟩, q7⟩ := Q
  have lo : ∀ k : Int, 0 ≤ k → k < V 0 6 → m' (310 + 9) (24 * 4 + 3 * k) = m (310 + 9) (24 * 4 + 3 * k) ∧ m' (310 + 9) (24 * 4 + 3 * k + 1) = m (310 + 9) (24 * 4 + 3 * k + 1) ∧ m' (310 + 9) (24 * 4 + 3 * k + 2) = m (310 + 9) (24 * 4 + 3 * k + 2) := fun k x0 x1 => ⟨f9 _ (by omega), f9 _ (by omega), f9 _ (by omega)⟩
  refine ⟨⟨⟨by rw [f6, r0 2 (by decide)]; exact a1, by rw [f7 _ (by decide), r0 0 (by decide)]; exact a2, by rw [f7 _ (by decide), r0 1 (by decide)]; exact a3, by rw [f7 _ (by decide), r0 5 (by decide)]; exact a4, by rw [r6]; exact f33, by rw [f7 _ (by decide), r0 7 (by decide)]; exact a6⟩, fun d d0 d1 => ?_, fun d h d0 d1 h0 h1 => ?_, fun d d0 d1 => ?_, fun k x0 x1 => ?_, fun h h0 h1 => ?_⟩, by rw [f7 _ (by decide), r0 3 (by decide)]; exact q7⟩
  · rw [f8, z 1 d (by decide) (by decide) (by decide), z 2 d (by decide) (by decide) (by decide), z 3 d (by decide) (by decide) (by decide), z 6 (2 * d) (by decide) (by decide) (by decide), z 6 (2 * d + 1) (by decide) (by decide) (by decide), r0 4 (by decide)]
    exact q2 d d0 d1
  · have old := q3 d h d0 d1 h0 h1
    rw [r5, r6]
    have up : (∃ k : Int, 0 ≤ k ∧ k < V 0 6 + 1 ∧ m' (310 + 9) (24 * 4 + 3 * k) = d ∧ m' (310 + 9) (24 * 4 + 3 * k + 1) ≤ h ∧ h ≤ m' (310 + 9) (24 * 4 + 3 * k + 2)) ↔ ((∃ k : Int, 0 ≤ k ∧ k < V 0 6 ∧ m (310 + 9) (24 * 4 + 3 * k) = d ∧ m (310 + 9) (24 * 4 + 3 * k + 1) ≤ h ∧ h ≤ m (310 + 9) (24 * 4 + 3 * k + 2)) ∨ (d = c ∧ a ≤ h ∧ h ≤ b)) := by
      constructor
      · rintro ⟨k, x0, x1, x2, x3, x4⟩
        by_cases e : k = V 0 6
        · subst e
          rw [show 24 * 4 + 3 * V 0 6 = 96 + 3 * V 0 6 by omega] at x2 x3 x4
          rw [k0] at x2
          rw [k1] at x3
          rw [k2] at x4
          exact Or.inr ⟨x2.symm, x3, x4⟩
        · obtain ⟨l0, l1, l2⟩ := lo k x0 (by omega)
          rw [l0] at x2
          rw [l1] at x3
          rw [l2] at x4
          exact Or.inl ⟨k, x0, by omega, x2, x3, x4⟩
      · rintro (⟨k, x0, x1, x2, x3, x4⟩ | ⟨x2, x3, x4⟩)
        · obtain ⟨l0, l1, l2⟩ := lo k x0 x1
          exact ⟨k, x0, by omega, by rw [l0]; exact x2, by rw [l1]; exact x3, by rw [l2]; exact x4⟩
        · refine ⟨V 0 6, by omega, by omega, ?_, ?_, ?_⟩ <;> rw [show 24 * 4 + 3 * V 0 6 = 96 + 3 * V 0 6 by omega]
          · rw [k0]; exact x2.symm
          · rw [k1]; exact x3
          · rw [k2]; exact x4
    rw [up, ← old]
    by_cases e : d = c
    · rw [if_pos e, hy.2 h h0 (by omega), Bool.or_eq_true, Bool.and_eq_true, decide_eq_true_iff, decide_eq_true_iff, e]
      constructor
      · rintro (u | u)
        · exact Or.inl u
        · exact Or.inr ⟨rfl, u⟩
      · rintro (u | u)
        · exact Or.inl u
        · exact Or.inr u.2
    · rw [if_neg e]
      exact ⟨fun u => Or.inl u, fun u => u.elim id (fun u => absurd u.1 e)⟩
  · have o := q4 d d0 d1
    rw [r4, r6, show (V 0 6 + 1).toNat = (V 0 6).toNat + 1 by omega, xnk, xnk_lo _ (fun k x0 x1 => (lo k x0 (by omega)).1), show (((V 0 6).toNat : Nat) : Int) = V 0 6 by omega, show 24 * 4 + 3 * V 0 6 = 96 + 3 * V 0 6 by omega, k0]
    by_cases e : d = c
    · rw [if_pos e, if_pos e.symm, ← e, o]
    · rw [if_neg e, if_neg (fun u => e u.symm), o, Int.add_zero]
  · rw [r0 7 (by decide)] at x1
    rw [f10, r0 0 (by decide), nv, z 7 k (by decide) (by decide) (by decide), z 8 k (by decide) (by decide) (by decide), z 9 k (by decide) (by decide) (by decide)]
    exact q5 k x0 x1
  · rw [f11, z 10 h (by decide) (by decide) (by decide)]
    exact q6 h h0 h1
theorem sleeps_s {f : Int → Int} {L a e k : Int} {V A B : xM} (al0 : yAl f L a e k A B) (D0 : yDt V A B) (p2 : 2 ≤ V 0 0) (y : yis f a e k (xstr (2 : Int).toNat) = true) (S8 : V 0 6 < 8) : ∃ B1 A' B' : xM, fQ_next 310 B = some B1 ∧ fReader_readSleeps 2 A = some A' ∧ fQ_sleepLine 310 B1 = some B' ∧ yLo f L a V A B A' B' := by
  obtain ⟨A1, B1, e1, en, -, -, fa, fb, a1, e1', k1, l1, al⟩ := word_t al0 yW_2 y
  have D := yDt_F D0 fa fb
  have W := D.2.1
  have hN := W.1.1
  have hH := W.1.2.1
  have hS := W.2.2.2.2.2.2.2.1
  have s0 : A (2 + 3) 6 = V 0 6 := xPv_0 D0.1 6 (by decide) (by decide)
  have cN : A1 (2 + 3) 0 = V 0 0 := xPv_0 D.1 0 (by decide) (by decide)
  have qN : B1 (310 + 7) (28 + 0) = V 0 0 := D.2.2.1.1.1.2.1
  have qS : B1 (310 + 7) (28 + 5) = V 0 6 := D.2.2.1.1.1.2.2.2.2.1
  refine ⟨B1, ?_⟩
  rw [en, e_readSleeps, s0, if_pos S8, e1, xB_s, e_q_sleepLine, hasRead_s B1 5 (by decide) (by decide), xB_s, qS, cN, xw32_id (x := V 0 0 - 1) (by omega) (by omega), xw32_id (x := 32 + V 0 6) (by omega) (by omega), xw32_id (x := 3 * (32 + V 0 6)) (by omega) (by omega), show 3 * (32 + V 0 6) = 96 + 3 * V 0 6 by omega, xw32_id (x := 96 + 3 * V 0 6 + 1) (by omega) (by omega), xw32_id (x := 96 + 3 * V 0 6 + 2) (by omega) (by omega)]
  generalize hz : 96 + 3 * V 0 6 = z
  obtain ⟨c, c', A2, B2, e2, e3, fa2, fb2, u⟩ := here_s al qN hN.1 hN.2
  rw [e2, xB2_s, e3, xB2_s, xA_p (by omega)]
  have ga2 : yGa A A2 := yGa_t (yGa_F fa) (yGa_F fa2)
  have gb2 : yGb B B2 := yGb_t (yGb_F fb) (yGb_F fb2)
  have gb2' : yGb B (xwr B2 (310 + 9) z c') := yGb_w gb2 _ (by unfold yOwn; omega)
  rcases u with ⟨ec, c0, c1, a2, e2', k2, l2, al2⟩ | d
  · subst ec
    have D2 := yDt_F D fa2 fb2
    have al2' : yAl f L a2 e2' k2 A2 (xwr B2 (310 + 9) z c) := yAl_o al2 (fun _ _ _ _ => rfl) rfl rfl (fun j _ _ => by rw [xwr_a _ (by decide)]) (xwr_a _ (by decide))
    have qH : (xwr B2 (310 + 9) z c) (310 + 7) (28 + 1) = V 0 1 := by rw [xwr_a _ (by decide)]; exact D2.2.2.1.1.1.2.2.1
    obtain ⟨v, v', A3, A4, B4, e4, e5, e6, fa4, fb4, fa3, u⟩ := wnum_s (lo := 0) (hi := V 0 1 - 1) al2' yW_14 (by decide) (by omega)
    have cH : A3 (2 + 3) 1 = V 0 1 := by rw [fa3.1 (2 + 3) (by decide)]; exact xPv_0 D2.1 1 (by decide) (by decide)
    rw [e4, xB_s, cH, xw32_id (x := V 0 1 - 1) (by omega) (by omega), e5, xB2_s, hasRead_s _ 1 (by decide) (by decide), xB_s, qH, xw32_id (x := V 0 1 - 1) (by omega) (by omega), e6, xB2_s, xA_p (by omega), xA_p (by omega), xwr_s]
    have ga4 : yGa A A4 := yGa_t ga2 (yGa_F fa4)
    have gb4 : yGb B B4 := yGb_t gb2' (yGb_F fb4)
    have gb4' : yGb B (xwr B4 (310 + 9) (z + 1) v') := yGb_w gb4 _ (by unfold yOwn; omega)
    rcases u with ⟨ev, v0, v1, a4, e4', k4, l4, al4⟩ | d
    · subst ev
      have al4' : yAl f L a4 e4' k4 A4 (xwr B4 (310 + 9) (z + 1) v) := yAl_o al4 (fun _ _ _ _ => rfl) rfl rfl (fun j _ _ => by rw [xwr_a _ (by decide)]) (xwr_a _ (by decide))
      have qH2 : (xwr B4 (310 + 9) (z + 1) v) (310 + 7) (28 + 1) = V 0 1 := by rw [xwr_a _ (by decide), fb4.1 (310 + 7) (by decide)]; exact qH
      obtain ⟨t, t', A5, A6, B6, e7, e8, e9, fa6, fb6, fa5, u⟩ := wnum_s (lo := v) (hi := V 0 1 - 1) al4' yW_15 v0 (by omega)
      have cH2 : A5 (2 + 3) 1 = V 0 1 := by rw [fa5.1 (2 + 3) (by decide), fa4.1 (2 + 3) (by decide)]; exact xPv_0 D2.1 1 (by decide) (by decide)
      rw [e7, xB_s, cH2, xw32_id (x := V 0 1 - 1) (by omega) (by omega), e8, xB2_s, hasRead_s _ 1 (by decide) (by decide), xB_s, qH2, xw32_id (x := V 0 1 - 1) (by omega) (by omega), e9, xB2_s, xA_p (by omega)]
      have ga6 : yGa A A6 := yGa_t ga4 (yGa_F fa6)
      have gb6 : yGb B B6 := yGb_t gb4' (yGb_F fb6)
      have gb7 : ∀ q : Int, yGb B (xwr (xwr B6 (310 + 9) (z + 2) t') (310 + 7) 33 q) := fun q => yGb_w (yGb_w gb6 _ (by unfold yOwn; omega)) _ (by unfold yOwn; omega)
      rcases u with ⟨et, t0, t1, a6, e6', k6, l6, al6⟩ | d
      · subst et
        have q33 : (xwr B6 (310 + 9) (z + 2) t) (310 + 7) 33 = V 0 6 := by
          rw [xwr_a _ (by decide), fb6.1 (310 + 7) (by decide), xwr_a _ (by decide), fb4.1 (310 + 7) (by decide), xwr_a _ (by decide)]
          exact D2.2.2.1.1.1.2.2.2.2.1
        have b9 : ∀ j : Int, (xwr B6 (310 + 9) (z + 2) t) (310 + 9) j = if j = z + 2 then t else if j = z + 1 then v else if j = z then c else B2 (310 + 9) j := fun j => by
          rw [xwr_at, fb6.1 (310 + 9) (by decide), xwr_at, fb4.1 (310 + 9) (by decide), xwr_at]
          (repeat' split) <;> first | rfl | (exfalso; omega)
        have bo : ∀ x : Int, x ≠ 310 → x ≠ 310 + 9 → (xwr B6 (310 + 9) (z + 2) t) x = B2 x := fun x h1 h2 => by
          rw [xwr_a _ h2, fb6.1 x h1, xwr_a _ h2, fb4.1 x h1, xwr_a _ h2]
        rw [q33, xw32_id (x := V 0 6 + 1) (by omega) (by omega)]
        have D6 : xPv A6 (2 + 3) V ∧ A6 2 6 = A2 2 6 := ⟨xPv_go D2.1 (fun x _ _ => by rw [fa6.1 x (by omega), fa4.1 x (by omega)]), by rw [fa6.2, fa4.2]⟩
        obtain ⟨A', y1, y2⟩ := lend_s (V := V) (A := A) (B := B) (B3 := xwr (xwr B6 (310 + 9) (z + 2) t) (310 + 7) 33 (V 0 6 + 1)) (W := fun m7 => xB (fPrison_addSleep (2 + 3) c v t m7) (fun m8 => some m8)) al6 ga6 (gb7 _) (by rw [xwr_a _ (by decide), xwr_a _ (by decide)]) (by rw [xwr_a _ (by decide), xwr_a _ (by decide)]) (fun A7 B7 fa7 fb7 _ => by
          have n4 := xnk_rg B2 (310 + 9) 4 c (V 0 6).toNat
          rw [← D2.2.2.1.1.2.2.2.1 c c0 (by omega)] at n4
          obtain ⟨m8, w1, w2, q, w3, w4⟩ := addSleep_s (V := V) (m := A7) (p := 2 + 3) (c := c) (a := v) (b := t) (xPv_go D6.1 (fun x _ _ => fa7.1 x (by omega))) (W.1.2.2.2.2.1 c c0 (by omega)).2.2.2.2 c0 (by omega) v0 t0 (by omega) (by omega) (by omega)
          obtain ⟨r1, r0, r6, r4, r5⟩ := ySU_r V c q
          refine ⟨m8, ySU V c q, by show xB _ _ = _; rw [w1, xB_s], fun x x2 x5 => by rw [w2 x (by omega), fa7.1 x x2]; exact ga6.1 x x2 x5, fun j hj => by rw [w2 2 (by omega)], ⟨w4, ySU_E W c0 (by omega) (by omega) S8 w3, ?_, ?_, ?_, ?_⟩, r0 2 (by decide), by rw [r0 0 (by decide)]; exact p2⟩
          · refine xQ0_c (ySU_Q (m' := xwr (xwr B6 (310 + 9) (z + 2) t) (310 + 7) 33 (V 0 6 + 1)) W D2.2.2.1 c0 (by omega) w3 ?_ ?_ ?_ ?_ (fun j hj => ?_) (xwr_s _ _ _ _) (fun j hj => ?_) ?_ ?_ ?_) (fun x _ _ => fb7.1 x (by omega))
            · rw [xwr_a _ (by decide), bo _ (by decide) (by decide)]
            · rw [xwr_a _ (by decide), bo _ (by decide) (by decide)]
            · rw [xwr_a _ (by decide), bo _ (by decide) (by decide)]
            · rw [xwr_a _ (by decide), bo _ (by decide) (by decide)]
            · rw [xwr_n _ (by omega), bo _ (by decide) (by decide)]
            · rw [xwr_a _ (by decide), b9, if_neg (by omega), if_neg (by omega), if_neg (by omega)]
            · rw [xwr_a _ (by decide), b9, if_neg (by omega), if_neg (by omega), if_pos (by omega)]
            · rw [xwr_a _ (by decide), b9, if_neg (by omega), if_pos (by omega)]
            · rw [xwr_a _ (by decide), b9, if_pos (by omega)]
          · rw [w2 2 (by omega), fa7.2, D6.2, fb7.1 (310 + 7) (by decide), xwr_n _ (by decide), bo _ (by decide) (by decide)]; exact D2.2.2.2.1
          · rw [w2 2 (by omega), fa7.2, D6.2]; exact D2.2.2.2.2.1
          · rw [w2 2 (by omega), fa7.2, D6.2, r0 0 (by decide), r0 4 (by decide)]; exact D2.2.2.2.2.2)
        exact ⟨A', _, rfl, y1, rfl, yLo_n (yGa_r _) (yGb_r _) y2 (by omega)⟩
      · rw [ts_d d.2.1, xB_s, if_neg d.2.1.1]
        exact ⟨A6, _, rfl, rfl, rfl, ga6, gb7 _, Or.inl (yDe_o d rfl rfl rfl (fun j _ _ => by rw [xwr_a _ (by decide), xwr_a _ (by decide)]) (by rw [xwr_a _ (by decide), xwr_a _ (by decide)]))⟩
    · have h4 : (xwr B4 (310 + 9) (z + 1) v') 310 12 ≠ 0 := by rw [xwr_a _ (by decide)]; exact yDe_q d
      rw [tw_d d.2.1, xB_s, tn_d d.2.1, xB2_s, ts_d d.2.1, xB_s, if_neg d.2.1.1, hasRead_s _ 1 (by decide) (by decide), xB_s, num3_d h4, xB2_s, xA_p (by omega)]
      exact ⟨A4, _, rfl, rfl, rfl, ga4, yGb_w (yGb_w gb4' _ (by unfold yOwn; omega)) _ (by unfold yOwn; omega), Or.inl (yDe_o d rfl rfl rfl (fun j _ _ => by rw [xwr_a _ (by decide), xwr_a _ (by decide), xwr_a _ (by decide)]) (by rw [xwr_a _ (by decide), xwr_a _ (by decide), xwr_a _ (by decide)]))⟩
  · have h2 : (xwr B2 (310 + 9) z c') 310 12 ≠ 0 := by rw [xwr_a _ (by decide)]; exact yDe_q d
    have h3 : ∀ q : Int, (xwr (xwr B2 (310 + 9) z c') (310 + 9) (z + 1) q) 310 12 ≠ 0 := fun q => by rw [xwr_a _ (by decide)]; exact h2
    rw [tw_d d.2.1, xB_s, tn_d d.2.1, xB2_s, tw_d d.2.1, xB_s, tn_d d.2.1, xB2_s, ts_d d.2.1, xB_s, if_neg d.2.1.1, hasRead_s _ 1 (by decide) (by decide), xB_s, num3_d h2, xB2_s, xA_p (by omega), xA_p (by omega), hasRead_s _ 1 (by decide) (by decide), xB_s, num3_d (h3 _), xB2_s, xA_p (by omega)]
    exact ⟨A2, _, rfl, rfl, rfl, ga2, yGb_w (yGb_w (yGb_w gb2' _ (by unfold yOwn; omega)) _ (by unfold yOwn; omega)) _ (by unfold yOwn; omega), Or.inl (yDe_o d rfl rfl rfl (fun j _ _ => by rw [xwr_a _ (by decide), xwr_a _ (by decide), xwr_a _ (by decide), xwr_a _ (by decide)]) (by rw [xwr_a _ (by decide), xwr_a _ (by decide), xwr_a _ (by decide), xwr_a _ (by decide)]))⟩
/-- a sleep too many -/
theorem sleeps_f {f : Int → Int} {L a e k : Int} {V A B : xM} (al : yAl f L a e k A B) (D : yDt V A B) (S8 : ¬ V 0 6 < 8) : ∃ A' : xM, fReader_readSleeps 2 A = some A' ∧ yLo f L a V A B A' (fQ_fails 310 3 B) := by
  obtain ⟨d, fa, fb, -⟩ := fail_s (c := 3) al (by decide)
  have s0 : A (2 + 3) 6 = V 0 6 := xPv_0 D.1 6 (by decide) (by decide)
  rw [e_readSleeps, s0, if_neg S8, tw_d d.2.1, xB_s, tn_d d.2.1, xB2_s, tw_d d.2.1, xB_s, tn_d d.2.1, xB2_s, tw_d d.2.1, xB_s, tn_d d.2.1, xB2_s, ts_d d.2.1, xB_s, if_neg d.2.1.1]
  exact ⟨_, rfl, yGa_F fa, yGb_F fb, Or.inl d⟩
end
