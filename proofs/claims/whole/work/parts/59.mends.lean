/-! which quarrels to mend -/
noncomputable section
def xmq (V : xM) (s : Int) : xM := xwr V 0 5 (xand (V 0 5) (xxor s (-1)))
def xFq2 (V : xM) (s : Int) : Int := xmm (xmq V s)
theorem WF_05 {V : xM} (w : xWF V) {v : Int} (hv : x32 v) : xWF (xwr V 0 5 v) := by
  have e1 := fun i => xwr_r (V := V) (a := 0) (c := 5) (v := v) 1 i (by decide)
  have e2 := fun i => xwr_r (V := V) (a := 0) (c := 5) (v := v) 2 i (by decide)
  have e3 := fun i => xwr_r (V := V) (a := 0) (c := 5) (v := v) 3 i (by decide)
  have e5 := fun i => xwr_r (V := V) (a := 0) (c := 5) (v := v) 5 i (by decide)
  have e6 := fun i => xwr_r (V := V) (a := 0) (c := 5) (v := v) 6 i (by decide)
  have e8 := fun i => xwr_r (V := V) (a := 0) (c := 5) (v := v) 8 i (by decide)
  have e10 := fun i => xwr_r (V := V) (a := 0) (c := 5) (v := v) 10 i (by decide)
  have e0 : ∀ i : Int, i ≠ 5 → xwr V 0 5 v 0 i = V 0 i := fun i hi => xwr_n _ (fun x => hi x.2)
  unfold xWF at w ⊢
  simp only [e1, e2, e3, e5, e6, e8, e10, e0 0 (by decide), e0 1 (by decide), e0 3 (by decide), e0 7 (by decide), e0 4 (by decide), xwr_s]
  exact ⟨w.1, w.2.1, w.2.2.1, w.2.2.2.1, w.2.2.2.2.1, w.2.2.2.2.2.1, w.2.2.2.2.2.2.1, w.2.2.2.2.2.2.2.1, hv, w.2.2.2.2.2.2.2.2.2⟩
theorem xwr_2 (M : xM) (a i v u : Int) : xwr (xwr M a i v) a i u = xwr M a i u := by
  funext b j
  rw [xwr_at, xwr_at, xwr_at]
  split <;> rfl
theorem xwr_self (M : xM) (a i : Int) : xwr M a i (M a i) = M := by
  funext b j
  rw [xwr_at]
  split
  · next h => rw [h.1, h.2]
  · rfl
def xDr (m V : xM) : Prop := ∃ y : Int, xPv m (1 + 26) (xwr V 0 5 y)
theorem mendD {m V : xM} {s : Int} (w : xWE V) (hd : xDs m V) (hr : xDr m V) : xP (fD_mostIfMended 1 s m) (fun x => x.1 = xFq2 V s ∧ xKp m x.2 ∧ xDr x.2 V) := by
  obtain ⟨y, hy⟩ := hr
  have hH := w.1.2.1
  have W := WF_05 w.1 (v := xand (V 0 5) (xxor s (-1))) (xand_in _ _)
  have hv := xPv_w0 hy 5 (xand (V 0 5) (xxor s (-1)))
  rw [xwr_2] at hv
  unfold fD_mostIfMended
  rw [xPv_0 hd.1 5 (by decide) (by decide)]
  refine xP_B (explore_s (x := 1 + 146) (p := 1 + 26) hv W (by decide)) ?_
  rintro k ⟨f, l⟩
  have hH' : (xwr V 0 5 (xand (V 0 5) (xxor s (-1)))) 0 1 = V 0 1 := xwr_n _ (by decide)
  rw [atL W l, xB_s, hH']
  have ll := l.2 (V 0 1).toNat (by rw [hH']; omega)
  refine xP_B (largest_s ll) (fun q hq => xP_some ⟨?_, ?_, xand (V 0 5) (xxor s (-1)), xPv_go hv (fun a a0 a1 => f a (by omega))⟩)
  · exact (xmm_eq (V := xmq V s) (by rw [show (xmq V s) 0 1 = V 0 1 from hH']; exact hq)).symm
  · have f1 : xF 27 37 m (xwr m (1 + 26) 5 (xand (V 0 5) (xxor s (-1)))) := xwr_F (xF_rfl _ _ _) (by decide) (by decide)
    exact xKp_tr (kp_draft f1) (kp_trial f)
theorem mendQ {m V : xM} {s : Int} (w : xWE V) (Q : xQ0 m 310 0 V) (hp : 2 ≤ V 0 0) : xP (fQ_mostNow 310 (xwr (fQ_plainly 310 m) 310 26 s)) (fun x => x.1 = xFq2 V s ∧ xKp m x.2) := by
  have hN := w.1.1
  have k := plainly_kp m
  have P := (plainly_s 310 m).1
  have Q1 := xQ0_kp Q k
  generalize fQ_plainly 310 m = m1 at k P Q1 ⊢
  obtain ⟨p1, p2, p3, p4, p5, p6, p7, p8, p9⟩ := P
  have f : ∀ i : Int, i ≠ 26 → (xwr m1 310 26 s) 310 i = m1 310 i := fun i hi => xwr_n _ (fun x => hi x.2)
  have e0 : ∀ i : Int, i ≠ 5 → xmq V s 0 i = V 0 i := fun i hi => xwr_n _ (fun x => hi x.2)
  have er : ∀ a i : Int, a ≠ 0 → xmq V s a i = V a i := fun a i ha => xwr_r _ _ ha
  have Q' : xQd (xwr m1 310 26 s) 310 0 V := xQd_go Q1.1 (fun a a0 a1 => xwr_a _ (by omega))
  have E : xEf (xwr m1 310 26 s) 310 (xmq V s) := by
    refine xEf_mk Q' w hp (by rw [xwr_a _ (by decide), e0 3 (by decide)]; exact Q1.2) (by rw [e0 3 (by decide)]; exact w.1.2.2.1) (e0 0 (by decide)) (e0 1 (by decide)) (fun d h _ _ _ _ => ?_) (fun d d0 d1 => ?_) (fun b _ _ => ?_) (fun k _ _ => ⟨er _ _ (by decide), er _ _ (by decide), er _ _ (by decide)⟩) (Or.inl ⟨by rw [f _ (by decide)]; exact p8, e0 7 (by decide)⟩)
    · rw [er _ _ (by decide), f 23 (by decide), f 35 (by decide), p1, p9]; simp
    · rw [e0 0 (by decide)] at d1
      rw [xwr_s, f 25 (by decide), f 27 (by decide), f 28 (by decide), er 1 d (by decide), er 2 d (by decide), er 3 d (by decide), e0 4 (by decide), p3, p5, p6, xbt_0]
      have : xbt (xmq V s 0 5) d = (xbt (V 0 5) d && !xbt s d) := by
        unfold xmq
        rw [xwr_s, xbt_and, xbt_not _ d0 (by omega)]
      rw [this]
      simp
    · rw [f 24 (by decide), p2, er _ _ (by decide)]; simp
  refine xP_mono (ifQ E (WF_05 w.1 (xand_in _ _)) (by rw [f _ (by decide)]; exact p7)) ?_
  rintro x ⟨e, -, g⟩
  exact ⟨e, xKp_tr (xKp_w k (by decide) (by decide) (by decide)) (xFq_kp g)⟩
theorem quar_T {V : xM} {a b : Int} (w : xWF V) (hab : ∀ d : Int, 0 ≤ d → d < 32 → xbt b d = true → xbt a d = true) (c s h : Int) (c0 : 0 ≤ c) (c1 : c < V 0 0) (e : xT (xwr V 0 5 a) c s h = true) : xT (xwr V 0 5 b) c s h = true := by
  have hN := w.1
  have g : ∀ v : Int, xwo (xwr V 0 5 v) c s h = if xnb (V 0 0) (V 0 3) c s = -1 then 1 else if xbt (V 5 c) h = true then 3 else if V 1 c = 3 then 4 else if xbt v (if s = 1 then c else xnb (V 0 0) (V 0 3) c s) = true then 5 else if xhis V c s h = false then 6 else if xlk V (2 * c + s) h < V 3 c then 7 else 0 := by
    intro v
    have e0 : ∀ i : Int, i ≠ 5 → xwr V 0 5 v 0 i = V 0 i := fun i hi => xwr_n _ (fun x => hi x.2)
    have er : ∀ a i : Int, a ≠ 0 → xwr V 0 5 v a i = V a i := fun a i ha => xwr_r _ _ ha
    have lk : ∀ b : Int, xlk (xwr V 0 5 v) b h = xlk V b h := by
      intro b
      have k : ∀ n : Nat, xsp (xwr V 0 5 v) b h n = xsp V b h n := by
        intro n
        induction n with
        | zero => rfl
        | succ n ih => unfold xsp; rw [ih, er 7 _ (by decide), er 8 _ (by decide), er 9 _ (by decide)]
      unfold xlk
      rw [k, er 6 _ (by decide), e0 7 (by decide)]
    have hh : xhis (xwr V 0 5 v) c s h = xhis V c s h := by unfold xhis; rw [er 1 _ (by decide), er 2 _ (by decide)]
    unfold xwo xwy
    rw [e0 0 (by decide), e0 3 (by decide), e0 4 (by decide), xwr_s, er 5 _ (by decide), er 1 _ (by decide), er 3 _ (by decide), lk, hh, xbt_0]
    simp only [Bool.false_and, Bool.false_eq_true, if_false]
  have e := of_decide_eq_true e
  apply decide_eq_true
  rw [g] at e ⊢
  have r := xnb_rg (ring := V 0 3) (s := s) c0 c1
  by_cases n : xnb (V 0 0) (V 0 3) c s = -1
  · rw [if_pos n] at e; cases e
  rw [if_neg n] at e ⊢
  have hd : 0 ≤ (if s = 1 then c else xnb (V 0 0) (V 0 3) c s) ∧ (if s = 1 then c else xnb (V 0 0) (V 0 3) c s) < 32 := by split <;> omega
  by_cases x : xbt b (if s = 1 then c else xnb (V 0 0) (V 0 3) c s) = true
  · rw [if_pos (hab _ hd.1 hd.2 x)] at e
    (repeat' split at e) <;> omega
  · rw [if_neg x]
    (repeat' split at e) <;> (repeat' split) <;> first | omega | simp_all
theorem Fq_mono {V : xM} (w : xWE V) {s t : Int} (h : ∀ d : Int, 0 ≤ d → d < 32 → xbt (V 0 5) d = true → xbt s d = true → xbt t d = true) : xFq2 V s ≤ xFq2 V t := by
  have e0 : ∀ (v i : Int), i ≠ 5 → xwr V 0 5 v 0 i = V 0 i := fun v i hi => xwr_n _ (fun x => hi x.2)
  have key : ∀ c s' h' : Int, 0 ≤ c → c < V 0 0 → xT (xmq V s) c s' h' = true → xT (xmq V t) c s' h' = true := fun c s' h' c0 c1 e => quar_T w.1 (fun d d0 d1 hd => by
    rw [xbt_and, xbt_not _ d0 d1] at hd ⊢
    cases hq : xbt (V 0 5) d
    · rw [hq] at hd; exact hd
    · cases hs : xbt s d
      · rfl
      · rw [h d d0 d1 hq hs, hq] at hd; exact hd) c s' h' c0 c1 e
  have n0 : xmq V s 0 0 = xmq V t 0 0 := by unfold xmq; rw [e0 _ 0 (by decide), e0 _ 0 (by decide)]
  have n1 : xmq V s 0 1 = xmq V t 0 1 := by unfold xmq; rw [e0 _ 1 (by decide), e0 _ 1 (by decide)]
  have n3 : xmq V s 0 3 = xmq V t 0 3 := by unfold xmq; rw [e0 _ 3 (by decide), e0 _ 3 (by decide)]
  have n4 : xmq V s 0 4 = xmq V t 0 4 := by unfold xmq; rw [e0 _ 4 (by decide), e0 _ 4 (by decide)]
  have W : xWF (xmq V t) := WF_05 w.1 (xand_in _ _)
  have hN : xmq V t 0 0 = V 0 0 := by unfold xmq; rw [e0 _ 0 (by decide)]
  exact xmm_le W n0 n1 (xop_T W n0 n3 n4 (fun c s' h' c0 c1 _ e => key c s' h' c0 (by omega) e))
theorem xct_sub {p q : Nat → Bool} : ∀ n : Nat, (∀ k, k < n → p k = true → q k = true) → xct p n ≤ xct q n ∧ (xct p n = xct q n → ∀ k, k < n → p k = q k)
  | 0, _ => ⟨Nat.le_refl _, fun _ k hk => absurd hk (Nat.not_lt_zero _)⟩
  | n + 1, h => by
    obtain ⟨a, b⟩ := xct_sub n (fun k hk => h k (by omega))
    have hn := h n (by omega)
    unfold xct
    cases hp : p n <;> cases hq : q n
    · refine ⟨by simpa using a, fun e k hk => ?_⟩
      by_cases x : k = n
      · rw [x, hp, hq]
      · exact b (by simpa using e) k (by omega)
    · refine ⟨by simp; omega, fun e => ?_⟩
      simp at e; omega
    · rw [hp] at hn; rw [hn rfl] at hq; cases hq
    · refine ⟨by simp; exact a, fun e k hk => ?_⟩
      by_cases x : k = n
      · rw [x, hp, hq]
      · exact b (by simpa using e) k (by omega)
theorem xpc_sub {s t : Int} (hs : x32 s) (ht : x32 t) (h : xsbs s t) : xpc s ≤ xpc t ∧ (xpc s = xpc t → s = t) := by
  have key := xct_sub (p := fun i => xbt s (i : Int)) (q := fun i => xbt t (i : Int)) 32 (fun k hk e => h k (by omega) (by omega) e)
  unfold xpc
  refine ⟨by omega, fun e => xbt_ext hs ht (fun c c0 c1 => ?_)⟩
  have := key.2 (by omega) c.toNat (by omega)
  rwa [Int.toNat_of_nonneg c0] at this
theorem xsbs_le {s t : Int} (s0 : 0 ≤ s) (s1 : s < 512) (t0 : 0 ≤ t) (t1 : t < 512) (h : xsbs s t) : s ≤ t := by
  have e : xand s t = s := xbt_ext (xand_in _ _) (by constructor <;> omega) (fun c c0 c1 => by
    rw [xbt_and]
    cases hs : xbt s c
    · rfl
    · rw [h c c0 c1 hs]; rfl)
  obtain ⟨a, rfl⟩ := Int.eq_ofNat_of_zero_le s0
  obtain ⟨b, rfl⟩ := Int.eq_ofNat_of_zero_le t0
  rw [xand_nat (by omega) (by omega)] at e
  have : a &&& b ≤ b := Nat.and_le_right
  omega
/-- a set of quarrels whose mending does -/
def xVd (V : xM) (n s : Int) : Prop := (0 ≤ s ∧ s < 512) ∧ xsbs s (V 0 5) ∧ n ≤ xFq2 V s
def xBf (b s : Int) : Prop := xpc b < xpc s ∨ (xpc b = xpc s ∧ b ≤ s)
def xBe (V : xM) (n b : Int) : Prop := (b = -1 ∧ ∀ s, ¬ xVd V n s) ∨ (xVd V n b ∧ ∀ s, xVd V n s → xBf b s)
theorem xBe_one {V : xM} {n a b : Int} (h : xBe V n a) (k : xBe V n b) : a = b := by
  rcases h with ⟨e, h⟩ | ⟨h1, h2⟩ <;> rcases k with ⟨f, k⟩ | ⟨k1, k2⟩
  · omega
  · exact absurd k1 (h b)
  · exact absurd h1 (k a)
  · have x := h2 b k1
    have y := k2 a h1
    unfold xBf at x y
    omega
def xAm (V : xM) (n what r : Int) : Prop := ∃ b : Int, xBe V n b ∧ r = if b = -1 then -1 else if what = 1 then b else xpc b
theorem xAm_one {V : xM} {n what r s : Int} (h : xAm V n what r) (k : xAm V n what s) : r = s := by
  obtain ⟨a, ha, e⟩ := h
  obtain ⟨b, hb, f⟩ := k
  rw [e, f, xBe_one ha hb]
theorem quar_9 {V : xM} (w : xWE V) : 0 ≤ V 0 5 ∧ V 0 5 < 512 := by
  have a := w.2.2.2.2.2.2.2.2.2.1
  have hN := w.1.1
  have b := xpw2 (V 0 0).toNat (by omega)
  omega
theorem mendsQ_L {M V : xM} {n what : Int} (w : xWE V) (hp : 2 ≤ V 0 0) (hq : V 0 5 < 2 ^ (V 0 0).toNat) : ∀ (k g i : Nat) (best : Int) (m : xM), k < g → (i : Int) + k = 2 ^ (V 0 0).toNat → xQ0 m 310 0 V → xKp M m → ((best = -1 ∧ ∀ s : Int, s < i → ¬ xVd V n s) ∨ ((xVd V n best ∧ best < i) ∧ ∀ s : Int, s < i → xVd V n s → xBf best s)) → xP (fQ_mends_L42 g 310 n what best (i : Int) m) (fun x => xAm V n what x.1 ∧ xKp M x.2)
  | _, 0, _, _, _, hg, _, _, _, _ => absurd hg (Nat.not_lt_zero _)
  | 0, g + 1, i, best, m, _, hi, hQ, hk, hb => by
    have hN := w.1.1
    have q9 := quar_9 w
    have all : ∀ s, xVd V n s → s < i := fun s x => by
      have := xsbs_le x.1.1 x.1.2 q9.1 q9.2 x.2.1
      omega
    unfold fQ_mends_L42
    rw [show m (310 + 7) 0 = V 0 0 from hQ.1.1.2.1, (xshl1_pw hN.1 (by omega)).1, if_neg (by omega)]
    rcases hb with ⟨e, h⟩ | ⟨h1, h2⟩
    · rw [if_pos e]
      exact xP_some ⟨⟨best, Or.inl ⟨e, fun s x => h s (all s x) x⟩, by rw [if_pos e, e]⟩, hk⟩
    · have B : xBe V n best := Or.inr ⟨h1.1, fun s x => h2 s (all s x) x⟩
      have hb := h1.1.1
      rw [if_neg (show ¬ best = -1 by omega)]
      by_cases c : what = 1
      · rw [if_pos c]
        exact xP_some ⟨⟨best, B, by rw [if_neg (show ¬ best = -1 by omega), if_pos c]⟩, hk⟩
      · rw [if_neg c, sizeOf_s m hb.1 (by omega), xB_s]
        exact xP_some ⟨⟨best, B, by rw [if_neg (show ¬ best = -1 by omega), if_neg c]⟩, hk⟩
  | k + 1, g + 1, i, best, m, hg, hi, hQ, hk, hb => by
    have hN := w.1.1
    have hp9 := xpw2 (V 0 0).toNat (by omega)
    have q9 := quar_9 w
    unfold fQ_mends_L42
    rw [show m (310 + 7) 0 = V 0 0 from hQ.1.1.2.1, show m (310 + 7) 4 = V 0 5 from hQ.1.1.2.2.2.1, (xshl1_pw hN.1 (by omega)).1, if_pos (show (i : Int) < 2 ^ (V 0 0).toNat by omega), xw32_id (x := (i : Int) + 1) (by omega) (by omega)]
    have skip : ¬ xVd V n i ∨ (best ≠ -1 ∧ xBf best i) → xP (fQ_mends_L42 g 310 n what best ((i : Int) + 1) m) (fun x => xAm V n what x.1 ∧ xKp M x.2) := by
      intro hno
      refine mendsQ_L w hp hq k g (i + 1) best m (by omega) (by omega) hQ hk ?_
      rcases hb with ⟨e, h⟩ | ⟨h1, h2⟩
      · rcases hno with hno | hno
        · refine Or.inl ⟨e, fun s hs => ?_⟩
          by_cases es : s = i
          · rw [es]; exact hno
          · exact h s (by omega)
        · exact absurd e hno.1
      · refine Or.inr ⟨⟨h1.1, by have := h1.2; omega⟩, fun s hs x => ?_⟩
        by_cases es : s = i
        · rw [es] at x ⊢
          rcases hno with hno | hno
          · exact absurd x hno
          · exact hno.2
        · exact h2 s (by omega) x
    have try_ : xsbs i (V 0 5) → (best ≠ -1 → xpc i < xpc best) → xP (xB (fQ_mostNow 310 (xwr (fQ_plainly 310 m) 310 26 (i : Int))) (fun q_ => match q_ with | (v5, m5) => if v5 < n then (fQ_mends_L42 g 310 n what best ((i : Int) + 1) m5) else (fQ_mends_L42 g 310 n what (i : Int) ((i : Int) + 1) m5))) (fun x => xAm V n what x.1 ∧ xKp M x.2) := by
      intro hsub hlt
      refine xP_B (mendQ (s := (i : Int)) w hQ hp) ?_
      rintro ⟨v, m5⟩ ⟨e, k5⟩
      have e : v = xFq2 V i := e
      have k5 : xKp m m5 := k5
      show xP (if v < n then _ else _) _
      by_cases c : v < n
      · rw [if_pos c]
        refine mendsQ_L w hp hq k g (i + 1) best m5 (by omega) (by omega) (xQ0_kp hQ k5) (xKp_tr hk k5) ?_
        have hno : ¬ xVd V n i := fun x => by have := x.2.2; omega
        rcases hb with ⟨e, h⟩ | ⟨h1, h2⟩
        · refine Or.inl ⟨e, fun s hs => ?_⟩
          by_cases es : s = i
          · rw [es]; exact hno
          · exact h s (by omega)
        · refine Or.inr ⟨⟨h1.1, by have := h1.2; omega⟩, fun s hs x => ?_⟩
          by_cases es : s = i
          · rw [es] at x; exact absurd x hno
          · exact h2 s (by omega) x
      · rw [if_neg c]
        refine mendsQ_L w hp hq k g (i + 1) _ m5 (by omega) (by omega) (xQ0_kp hQ k5) (xKp_tr hk k5) (Or.inr ⟨⟨⟨by omega, hsub, by omega⟩, by omega⟩, fun s hs x => ?_⟩)
        by_cases es : s = i
        · rw [es]; exact Or.inr ⟨rfl, Int.le_refl _⟩
        · rcases hb with ⟨e, h⟩ | ⟨h1, h2⟩
          · exact absurd x (h s (by omega))
          · have b := h1.1.1
            have l := hlt (by omega)
            have y := h2 s (by omega) x
            unfold xBf at y ⊢
            omega
    by_cases z : xand (i : Int) (xxor (V 0 5) (-1)) = 0
    · have hsub := xsbs_and.mp z
      rw [if_pos z]
      by_cases b : best = -1
      · rw [if_pos b]
        exact try_ hsub (fun x => absurd b x)
      · have hv : xVd V n best := by
          rcases hb with ⟨e, h⟩ | ⟨h1, h2⟩
          · exact absurd e b
          · exact h1.1
        rw [if_neg b, sizeOf_s m (by omega) (by omega), xB_s, sizeOf_s m hv.1.1 (by have := hv.1.2; omega), xB_s]
        by_cases c : xpc i < xpc best
        · rw [if_pos c]
          exact try_ hsub (fun _ => c)
        · rw [if_neg c]
          refine skip ?_
          by_cases hv2 : xVd V n i
          · refine Or.inr ⟨b, ?_⟩
            rcases hb with ⟨e, h⟩ | ⟨h1, h2⟩
            · exact absurd e b
            · have := h1.2
              unfold xBf
              omega
          · exact Or.inl hv2
    · rw [if_neg z]
      exact skip (Or.inl (fun x => z (xsbs_and.mpr x.2.1)))
theorem one_b {V : xM} (w : xWE V) {c d : Int} (c0 : 0 ≤ c) (c1 : c < 32) (d0 : 0 ≤ d) (d1 : d < 32) : xbt (xand (V 0 5) (xshl 1 c)) d = (xbt (V 0 5) d && decide (d = c)) := by
  rw [xbt_and, xbt_shl1 c0 c1 d0 d1]
def xNd (V : xM) (n r : Int) : Prop := x32 r ∧ ∀ d : Int, 0 ≤ d → d < 32 → xbt r d = true → xbt (V 0 5) d = true ∧ ∀ s : Int, xVd V n s → xbt s d = true
theorem needD_L {M V : xM} {n : Int} (w : xWE V) : ∀ (k g i : Nat) (r : Int) (m : xM), k < g → (i : Int) + k = V 0 0 → xDs m V → xDr m V → xKp M m → xNd V n r → xP (fD_neededMends_L4 g 1 n r (i : Int) m) (fun x => xNd V n x.1 ∧ xKp M x.2 ∧ xDs x.2 V ∧ xDr x.2 V)
  | _, 0, _, _, _, hg, _, _, _, _, _ => absurd hg (Nat.not_lt_zero _)
  | 0, g + 1, i, r, m, _, hi, hd, hr, hk, hn => by
    unfold fD_neededMends_L4
    rw [xPv_0 hd.1 0 (by decide) (by decide), if_neg (by omega)]
    exact xP_some ⟨hn, hk, hd, hr⟩
  | k + 1, g + 1, i, r, m, hg, hi, hd, hr, hk, hn => by
    have hN := w.1.1
    unfold fD_neededMends_L4
    rw [xPv_0 hd.1 0 (by decide) (by decide), xPv_0 hd.1 5 (by decide) (by decide), if_pos (show (i : Int) < V 0 0 by omega), xw32_id (x := (i : Int) + 1) (by omega) (by omega)]
    by_cases z : xand (V 0 5) (xshl 1 (i : Int)) = 0
    · rw [if_pos z]
      exact needD_L w k g (i + 1) r m (by omega) (by omega) hd hr hk hn
    · rw [if_neg z]
      refine xP_B (mendD w hd hr) ?_
      rintro ⟨v, m1⟩ ⟨e, k1, r1⟩
      have e : v = xFq2 V (xand (V 0 5) (xxor (xand (V 0 5) (xshl 1 (i : Int))) (-1))) := e
      have k1 : xKp m m1 := k1
      show xP (if v < n then _ else _) _
      by_cases c : v < n
      · rw [if_pos c]
        refine needD_L w k g (i + 1) _ m1 (by omega) (by omega) (xDs_kp w hd k1) r1 (xKp_tr hk k1) ⟨xor_in _ _, fun d d0 d1 hb => ?_⟩
        rw [xbt_or, one_b w (by omega) (by omega) d0 d1, Bool.or_eq_true, Bool.and_eq_true, decide_eq_true_iff] at hb
        rcases hb with hb | ⟨hb, ed⟩
        · exact hn.2 d d0 d1 hb
        · refine ⟨hb, fun s hs => ?_⟩
          cases hx : xbt s d
          · have := Fq_mono w (s := s) (t := xand (V 0 5) (xxor (xand (V 0 5) (xshl 1 (i : Int))) (-1))) (fun f f0 f1 hq hf => by
              rw [xbt_and, xbt_not _ f0 f1, one_b w (by omega) (by omega) f0 f1, hq]
              by_cases ef : f = i
              · rw [ef, ← ed, hx] at hf; cases hf
              · simp [ef])
            have := hs.2.2
            omega
          · rfl
      · rw [if_neg c]
        exact needD_L w k g (i + 1) r m1 (by omega) (by omega) (xDs_kp w hd k1) r1 (xKp_tr hk k1) hn
theorem leastD_L {M V : xM} {n nd : Int} (w : xWE V) (hnd : xNd V n nd) : ∀ (k g i : Nat) (least : Int) (m : xM), k < g → (i : Int) + k = V 0 5 → xDs m V → xDr m V → xKp M m → (xVd V n least ∧ (least = V 0 5 ∨ (least < i ∧ xpc least < xpc (V 0 5)))) → (∀ s : Int, s < i → xVd V n s → xBf least s) → xP (fD_leastMending_L14 g 1 n nd (V 0 5) least (i : Int) m) (fun x => xBe V n x.1 ∧ xKp M x.2)
  | _, 0, _, _, _, hg, _, _, _, _, _, _ => absurd hg (Nat.not_lt_zero _)
  | 0, g + 1, i, least, m, _, hi, hd, hr, hk, hv, hb => by
    have q9 := quar_9 w
    unfold fD_leastMending_L14
    rw [if_neg (by omega)]
    refine xP_some ⟨Or.inr ⟨hv.1, fun s x => ?_⟩, hk⟩
    have sl := xsbs_le x.1.1 x.1.2 q9.1 q9.2 x.2.1
    by_cases e : s = V 0 5
    · rw [e]
      show xpc least < xpc (V 0 5) ∨ (xpc least = xpc (V 0 5) ∧ least ≤ V 0 5)
      rcases hv.2 with y | y
      · rw [y]; exact Or.inr ⟨rfl, Int.le_refl _⟩
      · exact Or.inl y.2
    · exact hb s (by omega) x
  | k + 1, g + 1, i, least, m, hg, hi, hd, hr, hk, hv, hb => by
    have q9 := quar_9 w
    have l9 := hv.1.1
    unfold fD_leastMending_L14
    rw [if_pos (by omega), JI_bc (by omega), JI_bc (by omega)]
    have skip : ∀ m1 : xM, xDs m1 V → xDr m1 V → xKp M m1 → (xVd V n i → xBf least i) → xP (fD_leastMending_L14 g 1 n nd (V 0 5) least ((i : Int) + 1) m1) (fun x => xBe V n x.1 ∧ xKp M x.2) := by
      intro m1 d1 r1 k1 hno
      refine leastD_L w hnd k g (i + 1) least m1 (by omega) (by omega) d1 r1 k1 ⟨hv.1, ?_⟩ (fun s hs x => ?_)
      · rcases hv.2 with y | y
        · exact Or.inl y
        · exact Or.inr ⟨by omega, y.2⟩
      · by_cases es : s = i
        · rw [es] at x ⊢; exact hno x
        · exact hb s (by omega) x
    have cont : ∀ y6 y0 : Int, (y6 = 0 → ¬ xpc i < xpc least) → (y6 ≠ 0 → xpc i < xpc least) → (y0 = 0 → ¬ xVd V n i) → (y0 ≠ 0 → xsbs i (V 0 5)) → xP (fD_leastMending_L63 (fD_leastMending_L14 g) 1 n nd (V 0 5) least (i : Int) y6 y0 m) (fun x => xBe V n x.1 ∧ xKp M x.2) := by
      intro y6 y0 a1 a2 a3 a4
      unfold fD_leastMending_L63
      rw [xw32_id (x := (i : Int) + 1) (by omega) (by omega)]
      by_cases e6 : y6 = 0
      · rw [if_pos e6]
        refine skip m hd hr hk (fun x => ?_)
        have := a1 e6
        unfold xBf
        rcases hv.2 with y | y
        · have p := xpc_sub (s := (i : Int)) (t := V 0 5) (by constructor <;> omega) (by constructor <;> omega) x.2.1
          rw [y] at this ⊢
          have ne : (i : Int) ≠ V 0 5 := by omega
          have : xpc i ≠ xpc (V 0 5) := fun q => ne (p.2 q)
          omega
        · omega
      · rw [if_neg e6]
        by_cases e0 : y0 = 0
        · rw [if_pos e0]
          exact skip m hd hr hk (fun x => absurd x (a3 e0))
        · rw [if_neg e0]
          refine xP_B (mendD w hd hr) ?_
          rintro ⟨v, m1⟩ ⟨e, k1, r1⟩
          have e : v = xFq2 V i := e
          have k1 : xKp m m1 := k1
          show xP (if v < n then _ else _) _
          by_cases c : v < n
          · rw [if_pos c]
            exact skip m1 (xDs_kp w hd k1) r1 (xKp_tr hk k1) (fun x => by have := x.2.2; omega)
          · have sub := a4 e0
            have lt := a2 e6
            have p := xpc_sub (s := (i : Int)) (t := V 0 5) (by constructor <;> omega) (by constructor <;> omega) sub
            have ne : (i : Int) ≠ V 0 5 := by omega
            have ne2 : xpc i ≠ xpc (V 0 5) := fun q => ne (p.2 q)
            rw [if_neg c]
            refine leastD_L w hnd k g (i + 1) _ m1 (by omega) (by omega) (xDs_kp w hd k1) r1 (xKp_tr hk k1) ⟨⟨by omega, sub, by omega⟩, Or.inr ⟨by omega, by omega⟩⟩ (fun s hs x => ?_)
            by_cases es : s = i
            · rw [es]; exact Or.inr ⟨rfl, Int.le_refl _⟩
            · have := hb s (by omega) x
              unfold xBf at this ⊢
              omega
    have mid : ∀ y6 : Int, (y6 = 0 → ¬ xpc i < xpc least) → (y6 ≠ 0 → xpc i < xpc least) → xP (fD_leastMending_L38 (fD_leastMending_L14 g) 1 n nd (V 0 5) least (i : Int) y6 m) (fun x => xBe V n x.1 ∧ xKp M x.2) := by
      intro y6 a1 a2
      unfold fD_leastMending_L38
      by_cases z : xand (i : Int) (xxor (V 0 5) (-1)) = 0
      · have sub := xsbs_and.mp z
        rw [if_pos z]
        by_cases z2 : xand nd (xxor (i : Int) (-1)) = 0
        · rw [if_pos z2]
          exact cont y6 1 a1 a2 (fun x => absurd x (by decide)) (fun _ => sub)
        · rw [if_neg z2]
          exact cont y6 0 a1 a2 (fun _ x => z2 (xsbs_and.mpr (fun d d0 d1 hb => (hnd.2 d d0 d1 hb).2 _ x))) (fun x => absurd rfl x)
      · rw [if_neg z]
        exact cont y6 0 a1 a2 (fun _ x => z (xsbs_and.mpr x.2.1)) (fun x => absurd rfl x)
    by_cases c : xpc i < xpc least
    · rw [if_pos c]
      exact mid 1 (fun x => absurd x (by decide)) (fun _ => c)
    · rw [if_neg c]
      exact mid 0 (fun _ => c) (fun x => absurd rfl x)
theorem xDr_0 {m V : xM} (h : xPv m (1 + 26) V) : xDr m V := ⟨V 0 5, by rw [xwr_self]; exact h⟩
theorem call_35 {M : xM} (S : Sim M) (n what : Int) : xC2 (fD_mends 1 n what M) (fQ_mends 310 n what) M := by
  obtain ⟨V, hv, W, Q, L⟩ := opn2 S
  have hN := W.1.1
  have q9 := quar_9 W
  by_cases h1 : 0 < V 0 0 ∧ (0 ≤ n ∧ n ≤ 9) ∧ (0 ≤ what ∧ what ≤ 1)
  · obtain ⟨h1, hn, hw⟩ := h1
    have p2 := W2p W h1
    refine xC2_of (A := fun r => xAm V n what r) ?_ (fun m k => ?_) (fun r s a b => xAm_one a b)
    · unfold fD_mends
      rw [stands_s, xPv_0 hv 0 (by decide) (by decide)]
      simp only [if10]
      rw [if_neg (not_not_intro h1), if_neg (show ¬ n < 0 by omega), if_neg (show ¬ 9 < n by omega), if_neg (show ¬ what < 0 by omega), if_neg (show ¬ 1 < what by omega)]
      refine xP_B (copyD W (L p2).1) ?_
      rintro m2 ⟨f, v⟩
      have k2 := kp_draft f
      have d2 := xDs_kp W (L p2).1 k2
      rw [xPv_0 d2.1 5 (by decide) (by decide)]
      refine xP_B (mendD W d2 (xDr_0 v)) ?_
      rintro ⟨u, m3⟩ ⟨e, k3, r3⟩
      have e : u = xFq2 V (V 0 5) := e
      have k3 : xKp m2 m3 := k3
      have d3 := xDs_kp W d2 k3
      show xP (if u < n then _ else _) _
      by_cases c : u < n
      · rw [if_pos c]
        refine xP_some ⟨⟨-1, Or.inl ⟨rfl, fun s x => ?_⟩, by rw [if_pos rfl]⟩, xKp_tr k2 k3⟩
        have := Fq_mono W (s := s) (t := V 0 5) (fun d d0 d1 hq _ => hq)
        have := x.2.2
        omega
      · rw [if_neg c]
        refine xP_B (needD_L (M := M) (n := n) W (V 0 0).toNat 20001 0 0 m3 (by omega) (by omega) d3 r3 (xKp_tr k2 k3) ⟨by constructor <;> decide, fun d d0 d1 hb => by rw [xbt_0] at hb; cases hb⟩) ?_
        rintro ⟨nd, m4⟩ ⟨hnd, k4, d4, r4⟩
        have hnd : xNd V n nd := hnd
        have full : xVd V n (V 0 5) := ⟨q9, fun d _ _ h => h, by omega⟩
        have nr : 0 ≤ nd ∧ nd < 512 := xbt_lo (n := 9) hnd.1 (by decide) (fun d d0 d1 => by
          cases hx : xbt nd d
          · rfl
          · have := (hnd.2 d (by omega) d1 hx).1
            rw [xbt_9 q9.1 q9.2 (by omega) d1] at this; cases this)
        have nle : nd ≤ V 0 5 := xsbs_le nr.1 nr.2 q9.1 q9.2 (fun d d0 d1 hb => (hnd.2 d d0 d1 hb).1)
        have en : nd = ((nd.toNat : Nat) : Int) := by omega
        show xP (xB (fD_leastMending 1 n nd m4) _) _
        unfold fD_leastMending
        have d4 : xDs m4 V := d4
        rw [xPv_0 d4.1 5 (by decide) (by decide)]
        have run := leastD_L (M := M) W hnd (V 0 5 - nd).toNat 20001 nd.toNat (V 0 5) m4 (by omega) (by omega) d4 r4 k4 ⟨full, Or.inl rfl⟩ (fun s hs x => by
          have := xsbs_le nr.1 nr.2 x.1.1 x.1.2 (fun d d0 d1 hb => (hnd.2 d d0 d1 hb).2 s x)
          omega)
        rw [← en] at run
        refine xP_B run ?_
        rintro ⟨b, m5⟩ ⟨hb, k5⟩
        have hb : xBe V n b := hb
        have k5 : xKp M m5 := k5
        have bv : xVd V n b := by
          rcases hb with ⟨-, x⟩ | ⟨x, -⟩
          · exact absurd full (x _)
          · exact x
        have b9 := bv.1
        show xP (if what = 0 then _ else _) _
        by_cases cw : what = 0
        · rw [if_pos cw, JI_bc (by omega)]
          exact xP_some ⟨⟨b, hb, by rw [if_neg (show ¬ b = -1 by omega), if_neg (show ¬ what = 1 by omega)]⟩, k5⟩
        · rw [if_neg cw]
          exact xP_some ⟨⟨b, hb, by rw [if_neg (show ¬ b = -1 by omega), if_pos (show what = 1 by omega)]⟩, k5⟩
    · obtain ⟨k2, Q2⟩ := Q m k
      have hq : V 0 5 < 2 ^ (V 0 0).toNat := W.2.2.2.2.2.2.2.2.2.1.2
      unfold fQ_mends
      rw [qPrison_s Q2 W, fQ_in_s, fQ_in_s]
      simp only [if10]
      rw [if_neg (not_not_intro h1), if_neg (not_not_intro hn), if_neg (not_not_intro hw)]
      have hp9 := xpw2 (V 0 0).toNat (by omega)
      have hp1 : (1 : Int) ≤ 2 ^ (V 0 0).toNat := Int.pow_pos (by decide)
      exact mendsQ_L (M := m) W p2 hq ((2 : Int) ^ (V 0 0).toNat).toNat 20001 0 (-1) _ (by omega) (by omega) Q2 k2 (Or.inl ⟨rfl, fun s hs x => by have := x.1; omega⟩)
  · have d : fD_mends 1 n what M = some (-2, M) := by
      unfold fD_mends
      rw [stands_s, xPv_0 hv 0 (by decide) (by decide)]
      simp only [if10]
      by_cases a : 0 < V 0 0
      · rw [if_neg (not_not_intro a)]
        by_cases b : n < 0
        · rw [if_pos b]
        · rw [if_neg b]
          by_cases c : 9 < n
          · rw [if_pos c]
          · rw [if_neg c]
            by_cases e : what < 0
            · rw [if_pos e]
            · rw [if_neg e, if_pos (Classical.byContradiction (fun y => h1 ⟨a, by omega, by omega⟩))]
      · rw [if_pos a]
    rw [d]
    refine xC2_n (k := fun m => xwr m 310 0 0) (fun m k => ?_)
    obtain ⟨k2, Q2⟩ := Q m k
    refine ⟨?_, k2⟩
    unfold fQ_mends
    rw [qPrison_s Q2 W, fQ_in_s, fQ_in_s]
    simp only [if10]
    by_cases a : 0 < V 0 0
    · rw [if_neg (not_not_intro a)]
      by_cases b : 0 ≤ n ∧ n ≤ 9
      · rw [if_neg (not_not_intro b), if_pos (fun c => h1 ⟨a, b, c⟩)]
      · rw [if_pos b]
    · rw [if_pos a]
end
