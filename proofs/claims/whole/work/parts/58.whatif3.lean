/-! what if, third part: gift, other -/
noncomputable section
def xgf (V : xM) (n : Int) (i : Nat) : Int := if xnv V ((i : Int) / 2) ((i : Int) % 2) = -1 then 0 else xmm (xSo V i n 0) - xmm V
def xgm (f : Nat → Int) : Nat → Nat → Int → Int → Int
  | 0, _, first, _ => first
  | k + 1, i, first, most => if most < f i then xgm f k (i + 1) (10 * ((i : Int) / 2) + (i : Int) % 2) (f i) else xgm f k (i + 1) first most
theorem giftD_L {M V : xM} {n : Int} (w : xWE V) (hp : 2 ≤ V 0 0) (n0 : 0 ≤ n) (n1 : n ≤ 9) : ∀ (k g i : Nat) (most first : Int) (m : xM), k < g → (i : Int) + k = 2 * V 0 0 → 0 ≤ most → xDs m V → xKp M m → xP (fD_gift_L27 g 1 n most first (i : Int) m) (fun x => x.1 = xgm (xgf V n) k i first most ∧ xKp M x.2)
  | _, 0, _, _, _, _, hg, _, _, _, _ => absurd hg (Nat.not_lt_zero _)
  | 0, g + 1, i, most, first, m, _, hi, _, hd, hk => by
    have hN := w.1.1
    unfold fD_gift_L27 xgm
    rw [xPv_0 hd.1 0 (by decide) (by decide), xw32_id (by omega) (by omega), if_neg (by omega)]
    exact xP_some ⟨rfl, hk⟩
  | k + 1, g + 1, i, most, first, m, hg, hi, h0, hd, hk => by
    have hN := w.1.1
    rw [fD_gift_L27, xgm]
    rw [xPv_0 hd.1 0 (by decide) (by decide), xw32_id (x := 2 * V 0 0) (by omega) (by omega), if_pos (show (i : Int) < 2 * V 0 0 by omega), xdiv_n (by omega) (by omega) (by decide), xrem_n (by omega), nb_s hd.1 w.1 (by omega) (by omega), show xnb (V 0 0) (V 0 3) ((i : Int) / 2) ((i : Int) % 2) = xnv V ((i : Int) / 2) ((i : Int) % 2) from rfl]
    by_cases e : xnv V ((i : Int) / 2) ((i : Int) % 2) = -1
    · have z : xgf V n i = 0 := if_pos e
      unfold fD_gift_L80
      rw [if_pos e, z, if_neg (show ¬ most < 0 by omega), if_neg (show ¬ most < 0 by omega), xw32_id (x := (i : Int) + 1) (by omega) (by omega)]
      exact giftD_L w hp n0 n1 k g (i + 1) _ _ m (by omega) (by omega) h0 hd hk
    · have z : xgf V n i = xmm (xSo V i n 0) - xmm V := if_neg e
      rw [if_neg e]
      refine xP_B (gainD w hd n0 n1) ?_
      rintro ⟨v, m2⟩ ⟨e2, kk⟩
      have e2 : v = xgf V n i := by rw [z]; exact e2
      show xP (if most < v then _ else _) _
      rw [e2, xw32_id (x := (i : Int) + 1) (by omega) (by omega), xw32_id (x := 10 * ((i : Int) / 2)) (by omega) (by omega), xw32_id (x := 10 * ((i : Int) / 2) + (i : Int) % 2) (by omega) (by omega)]
      by_cases c : most < xgf V n i
      · rw [if_pos c, if_pos c]
        exact giftD_L w hp n0 n1 k g (i + 1) _ _ m2 (by omega) (by omega) (by omega) (xDs_kp w hd kk) (xKp_tr hk kk)
      · rw [if_neg c, if_neg c]
        exact giftD_L w hp n0 n1 k g (i + 1) _ _ m2 (by omega) (by omega) h0 (xDs_kp w hd kk) (xKp_tr hk kk)
theorem giftQ_side {M V : xM} {n c s most first : Int} {m : xM} {g i : Nat} {K : Int → Int → Int → Int → Int → xM → Option (Int × xM)} {R : Int × xM → Prop} (w : xWE V) (hp : 2 ≤ V 0 0) (n0 : 0 ≤ n) (n1 : n ≤ 9) (hQ : xQ0 m 310 0 V) (hk : xKp M m) (c0 : 0 ≤ c) (c1 : c < V 0 0) (hs : s = 0 ∨ s = 1) (hi : (i : Int) = 2 * c + s) (h0 : 0 ≤ most)
    (hK : ∀ (f' m' : Int) (k : xM), 0 ≤ m' → xQ0 k 310 0 V → xKp M k → (∀ j : Nat, xgm (xgf V n) (j + 1) i first most = xgm (xgf V n) j (i + 1) f' m') → xP (fQ_gift_L48 K g 310 n f' m' c (s + 1) k) R) : xP (fQ_gift_L48 K (g + 1) 310 n first most c s m) R := by
  have hN := w.1.1
  have d1 : (i : Int) / 2 = c := by omega
  have d2 : (i : Int) % 2 = s := by omega
  rw [fQ_gift_L48, if_pos (show s < 2 by omega), xnvQ hQ w c0 c1 hs, xB_s, xw32_id (x := s + 1) (by omega) (by omega)]
  by_cases e : xnv V c s = -1
  · have z : xgf V n i = 0 := if_pos (by rw [d1, d2]; exact e)
    unfold fQ_gift_L81
    rw [if_pos e, if_neg (show ¬ most < 0 by omega), xw32_id (x := s + 1) (by omega) (by omega)]
    exact hK first most m h0 hQ hk (fun j => by rw [xgm, z, if_neg (show ¬ most < 0 by omega)])
  · have z : xgf V n i = xmm (xSo V i n 0) - xmm V := if_neg (by rw [d1, d2]; exact e)
    rw [if_neg e]
    refine xP_B (gainQ w hQ hp hs n0 n1) ?_
    rintro ⟨v, m2⟩ ⟨e2, kk⟩
    have e2 : v = xgf V n i := by rw [z, hi]; exact e2
    show xP (if most < v then _ else _) _
    rw [e2, xw32_id (x := 10 * c) (by omega) (by omega), xw32_id (x := 10 * c + s) (by omega) (by omega)]
    by_cases c2 : most < xgf V n i
    · rw [if_pos c2]
      exact hK _ _ m2 (by omega) (xQ0_kp hQ kk) (xKp_tr hk kk) (fun j => by rw [xgm, if_pos c2, d1, d2])
    · rw [if_neg c2]
      exact hK _ _ m2 h0 (xQ0_kp hQ kk) (xKp_tr hk kk) (fun j => by rw [xgm, if_neg c2])
theorem giftQ_L {M V : xM} {n : Int} (w : xWE V) (hp : 2 ≤ V 0 0) (n0 : 0 ≤ n) (n1 : n ≤ 9) : ∀ (k g i : Nat) (most first : Int) (m : xM), k < g → (i : Int) + k = V 0 0 → 0 ≤ most → xQ0 m 310 0 V → xKp M m → xP (fQ_gift_L34 g 310 n first most (i : Int) m) (fun x => x.1 = xgm (xgf V n) (2 * k) (2 * i) first most ∧ xKp M x.2)
  | _, 0, _, _, _, _, hg, _, _, _, _ => absurd hg (Nat.not_lt_zero _)
  | 0, g + 1, i, most, first, m, _, hi, _, hd, hk => by
    unfold fQ_gift_L34
    rw [show m (310 + 7) 0 = V 0 0 from hd.1.1.2.1, if_neg (by omega)]
    exact xP_some ⟨rfl, hk⟩
  | k + 1, g + 1, i, most, first, m, hg, hi, h0, hd, hk => by
    have hN := w.1.1
    rw [fQ_gift_L34, show m (310 + 7) 0 = V 0 0 from hd.1.1.2.1, if_pos (show (i : Int) < V 0 0 by omega)]
    refine giftQ_side (M := M) (g := 20000) (i := 2 * i) w hp n0 n1 hd hk (by omega) (by omega) (Or.inl rfl) (by omega) h0 (fun f1 m1 k1 h1 q1 kk1 st1 => ?_)
    refine giftQ_side (M := M) (g := 19999) (i := 2 * i + 1) (s := 0 + 1) w hp n0 n1 q1 kk1 (by omega) (by omega) (Or.inr rfl) (by omega) h1 (fun f2 m2 k2 h2 q2 kk2 st2 => ?_)
    rw [fQ_gift_L48, if_neg (by decide), xw32_id (x := (i : Int) + 1) (by omega) (by omega)]
    rw [show 2 * (k + 1) = 2 * k + 1 + 1 by omega, st1, st2, show 2 * i + 1 + 1 = 2 * (i + 1) by omega]
    exact giftQ_L w hp n0 n1 k g (i + 1) _ _ k2 (by omega) (by omega) h2 q2 kk2
theorem call_40 {M : xM} (S : Sim M) (n : Int) : xC2 (fD_gift 1 n M) (fQ_gift 310 n) M := by
  obtain ⟨V, hv, W, Q, L⟩ := opn2 S
  have hN := W.1.1
  by_cases h1 : 0 < V 0 0 ∧ 1 ≤ n ∧ n ≤ 9
  · obtain ⟨h1, h2⟩ := h1
    have p2 := W2p W h1
    refine xC2_of (A := fun r => r = xgm (xgf V n) (2 * (V 0 0).toNat) 0 (-1) 0) ?_ (fun m k => ?_) (fun r s a b => a.trans b.symm)
    · unfold fD_gift
      rw [stands_s, isPoints_s, xPv_0 hv 0 (by decide) (by decide)]
      simp only [if10]
      rw [if_neg (not_not_intro h1), if_neg (not_not_intro h2)]
      exact giftD_L (M := M) W p2 (by omega) h2.2 (2 * (V 0 0).toNat) 20001 0 0 (-1) M (by omega) (by omega) (by decide) (L p2).1 (xKp_rfl M)
    · obtain ⟨k2, Q2⟩ := Q m k
      unfold fQ_gift
      rw [qPrison_s Q2 W, fQ_in_s]
      simp only [if10]
      rw [if_neg (not_not_intro h1), if_neg (not_not_intro h2)]
      exact giftQ_L (M := m) W p2 (by omega) h2.2 (V 0 0).toNat 20001 0 0 (-1) _ (by omega) (by omega) (by decide) Q2 k2
  · have d : fD_gift 1 n M = some (-2, M) := by
      unfold fD_gift
      rw [stands_s, isPoints_s, xPv_0 hv 0 (by decide) (by decide)]
      simp only [if10]
      by_cases a : 0 < V 0 0
      · rw [if_neg (not_not_intro a), if_pos (fun b => h1 ⟨a, b⟩)]
      · rw [if_pos a]
    rw [d]
    refine xC2_n (k := fun m => xwr m 310 0 0) (fun m k => ?_)
    obtain ⟨k2, Q2⟩ := Q m k
    refine ⟨?_, k2⟩
    unfold fQ_gift
    rw [qPrison_s Q2 W, fQ_in_s]
    simp only [if10]
    by_cases a : 0 < V 0 0
    · rw [if_neg (not_not_intro a), if_pos (fun b => h1 ⟨a, b⟩)]
    · rw [if_pos a]
/-! other -/
def xFl (V : xM) (r n v : Int) : xM := fun a i => if a = r ∧ 0 ≤ i ∧ i < n then v else V a i
theorem xFl_r {V : xM} {r n v : Int} (a i : Int) (h : a ≠ r) : xFl V r n v a i = V a i := if_neg (fun x => h x.1)
theorem xFl_s {V : xM} {r n v : Int} (i : Int) (h0 : 0 ≤ i) (h1 : i < n) : xFl V r n v r i = v := if_pos ⟨rfl, h0, h1⟩
theorem xPv_f {m k V : xM} {p r n v : Int} (hv : xPv m p V) (f : xF (p + r) (p + r) m k) (hk : ∀ j : Int, k (p + r) j = if 0 ≤ j ∧ j < n then v else m (p + r) j) : xPv k p (xFl V r n v) := by
  intro a i ha
  by_cases e : a = r
  · subst e
    rw [hk i]
    by_cases c : 0 ≤ i ∧ i < n
    · rw [if_pos c, xFl_s i c.1 c.2]
    · rw [if_neg c]
      show _ = if a = a ∧ 0 ≤ i ∧ i < n then v else V a i
      rw [if_neg (fun x => c x.2)]
      exact hv a i ha
  · rw [f (p + a) (by omega), xFl_r a i e]
    exact hv a i ha
/-- which prison it is, otherwise in one thing -/
def xOt (V : xM) (x : Int) : xM := if x = 0 then xFl V 5 9 0 else if x = 1 then xFl V 6 18 9 else if x = 2 then xwr V 0 5 0 else if x = 3 then xFl V 1 9 0 else xwr V 0 3 (if V 0 3 = 0 then 1 else 0)
theorem WF_Fl {V : xM} (w : xWF V) {r n v : Int} (hr : (r = 5 ∧ v = 0) ∨ (r = 6 ∧ v = 9) ∨ (r = 1 ∧ v = 0)) : xWF (xFl V r n v) := by
  have e0 := fun i => xFl_r (V := V) (r := r) (n := n) (v := v) 0 i (by omega)
  have e2 := fun i => xFl_r (V := V) (r := r) (n := n) (v := v) 2 i (by omega)
  have e3 := fun i => xFl_r (V := V) (r := r) (n := n) (v := v) 3 i (by omega)
  have e8 := fun i => xFl_r (V := V) (r := r) (n := n) (v := v) 8 i (by omega)
  have e10 := fun i => xFl_r (V := V) (r := r) (n := n) (v := v) 10 i (by omega)
  have any : ∀ a i : Int, xFl V r n v a i = V a i ∨ (a = r ∧ xFl V r n v a i = v) := fun a i => by
    unfold xFl
    by_cases c : a = r ∧ 0 ≤ i ∧ i < n
    · rw [if_pos c]; exact Or.inr ⟨c.1, rfl⟩
    · rw [if_neg c]; exact Or.inl rfl
  unfold xWF at w ⊢
  simp only [e0, e2, e3, e8, e10]
  refine ⟨w.1, w.2.1, w.2.2.1, w.2.2.2.1, fun c c0 c1 => ?_, fun b b0 b1 => ?_, w.2.2.2.2.2.2⟩
  · have x := w.2.2.2.2.1 c c0 c1
    have a1 := any 1 c
    have a5 := any 5 c
    unfold x32 at x ⊢
    refine ⟨?_, x.2.1, fun y => ?_, x.2.2.2.1, ?_⟩
    · rcases a1 with y | ⟨y, z⟩
      · rw [y]; exact x.1
      · rw [z]; omega
    · rcases a1 with q | ⟨q, z⟩
      · rw [q] at y; exact x.2.2.1 y
      · rw [z] at y; omega
    · rcases a5 with y | ⟨y, z⟩
      · rw [y]; exact x.2.2.2.2
      · rw [z]; omega
  · have x := w.2.2.2.2.2.1 b b0 b1
    rcases any 6 b with y | ⟨y, z⟩
    · rw [y]; exact x
    · rw [z]; omega
theorem WF_0 {V : xM} (w : xWF V) {j v : Int} (hj : (j = 5 ∧ v = 0) ∨ (j = 3 ∧ (v = 0 ∨ v = 1))) : xWF (xwr V 0 j v) := by
  have e1 := fun i => xwr_r (V := V) (a := 0) (c := j) (v := v) 1 i (by decide)
  have e2 := fun i => xwr_r (V := V) (a := 0) (c := j) (v := v) 2 i (by decide)
  have e3 := fun i => xwr_r (V := V) (a := 0) (c := j) (v := v) 3 i (by decide)
  have e5 := fun i => xwr_r (V := V) (a := 0) (c := j) (v := v) 5 i (by decide)
  have e6 := fun i => xwr_r (V := V) (a := 0) (c := j) (v := v) 6 i (by decide)
  have e8 := fun i => xwr_r (V := V) (a := 0) (c := j) (v := v) 8 i (by decide)
  have e10 := fun i => xwr_r (V := V) (a := 0) (c := j) (v := v) 10 i (by decide)
  have e0 : ∀ i : Int, i ≠ j → xwr V 0 j v 0 i = V 0 i := fun i hi => xwr_n _ (fun x => hi x.2)
  unfold xWF at w ⊢
  simp only [e1, e2, e3, e5, e6, e8, e10]
  rw [e0 0 (by omega), e0 1 (by omega), e0 7 (by omega), e0 4 (by omega)]
  refine ⟨w.1, w.2.1, ?_, w.2.2.2.1, w.2.2.2.2.1, w.2.2.2.2.2.1, w.2.2.2.2.2.2.1, w.2.2.2.2.2.2.2.1, ?_, w.2.2.2.2.2.2.2.2.2⟩
  · by_cases c : (3 : Int) = j
    · rw [← c, xwr_s]; omega
    · rw [e0 3 c]; exact w.2.2.1
  · by_cases c : (5 : Int) = j
    · rw [← c, xwr_s]; unfold x32; omega
    · rw [e0 5 c]; exact w.2.2.2.2.2.2.2.2.1
theorem WF_Ot {V : xM} (w : xWF V) {x : Int} : xWF (xOt V x) := by
  unfold xOt
  (repeat' split)
  · exact WF_Fl w (Or.inl ⟨rfl, rfl⟩)
  · exact WF_Fl w (Or.inr (Or.inl ⟨rfl, rfl⟩))
  · exact WF_0 w (Or.inl ⟨rfl, rfl⟩)
  · exact WF_Fl w (Or.inr (Or.inr ⟨rfl, rfl⟩))
  · exact WF_0 w (Or.inr ⟨rfl, Or.inr rfl⟩)
  · exact WF_0 w (Or.inr ⟨rfl, Or.inl rfl⟩)
theorem otherD {m V : xM} {x : Int} (w : xWE V) (hd : xDs m V) {k : xM} (f : xF 27 37 m k) (v : xPv k (1 + 26) (xOt V x)) : xP (xB (fD_mostOfDraft 1 k) (fun q_ => match q_ with | (v3, m3) => xB (fD_mostNow 1 m3) (fun v4 => some ((xw32 (v3 - v4)), m3)))) (fun r => r.1 = xmm (xOt V x) - xmm V ∧ xKp m r.2) := by
  have b1 := xmm_b V
  have b2 := xmm_b (xOt V x)
  refine xP_B (draftD (WF_Ot w.1) v) ?_
  rintro ⟨u, k2⟩ ⟨e, f3⟩
  have e : u = xmm (xOt V x) := e
  have kk := xKp_tr (kp_draft f) (kp_trial f3)
  show xP (xB (fD_mostNow 1 k2) _) _
  rw [nowD w (xDs_kp w hd kk).2, xB_s]
  refine xP_some ⟨?_, kk⟩
  show xw32 (u - xmm V) = _
  rw [e, xw32_id (by omega) (by omega)]
theorem otherE {k V : xM} {x : Int} (Q : xQd k 310 0 V) (w : xWE V) (hp : 2 ≤ V 0 0) (x0 : 0 ≤ x) (x4 : x ≤ 4) (g3 : k (310 + 7) 3 = (xOt V x) 0 3) (g23 : k 310 23 = if x = 0 then 1 else 0) (g24 : k 310 24 = if x = 1 then 1 else 0) (g26 : k 310 26 = if x = 2 then 511 else 0) (g25 : k 310 25 = if x = 3 then 1 else 0) (g27 : k 310 27 = 0) (g28 : k 310 28 = 0) (g30 : k 310 30 = -1) (g35 : k 310 35 = 0) : xEf k 310 (xOt V x) := by
  have hN := w.1.1
  have W := WF_Ot (x := x) w.1
  have hc : x = 0 ∨ x = 1 ∨ x = 2 ∨ x = 3 ∨ x = 4 := by omega
  rcases hc with rfl | rfl | rfl | rfl | rfl
  · have e : xOt V 0 = xFl V 5 9 0 := rfl
    rw [e] at g3 W ⊢
    refine xEf_mk Q w hp g3 W.2.2.1 (xFl_r _ _ (by decide)) (xFl_r _ _ (by decide)) (fun d h d0 d1 _ _ => ?_) (fun d d0 d1 => ?_) (fun b _ _ => ?_) (fun j _ _ => ⟨xFl_r _ _ (by decide), xFl_r _ _ (by decide), xFl_r _ _ (by decide)⟩) (Or.inl ⟨g30, xFl_r _ _ (by decide)⟩)
    · rw [xFl_r _ _ (by decide)] at d1
      rw [xFl_s d d0 (by omega), xbt_0, g23]; simp
    · rw [g25, g26, g27, g28, xFl_r 1 _ (by decide), xFl_r 2 _ (by decide), xFl_r 3 _ (by decide), xFl_r 0 _ (by decide), xFl_r 0 _ (by decide)]; simp [xbt_0]
    · rw [g24, xFl_r _ _ (by decide)]; simp
  · have e : xOt V 1 = xFl V 6 18 9 := rfl
    rw [e] at g3 W ⊢
    refine xEf_mk Q w hp g3 W.2.2.1 (xFl_r _ _ (by decide)) (xFl_r _ _ (by decide)) (fun d h d0 d1 _ _ => ?_) (fun d d0 d1 => ?_) (fun b b0 b1 => ?_) (fun j _ _ => ⟨xFl_r _ _ (by decide), xFl_r _ _ (by decide), xFl_r _ _ (by decide)⟩) (Or.inl ⟨g30, xFl_r _ _ (by decide)⟩)
    · rw [xFl_r _ _ (by decide), g23, g35]; simp
    · rw [g25, g26, g27, g28, xFl_r 1 _ (by decide), xFl_r 2 _ (by decide), xFl_r 3 _ (by decide), xFl_r 0 _ (by decide), xFl_r 0 _ (by decide)]; simp [xbt_0]
    · rw [g24, xFl_s b b0 b1]; simp
  · have e : xOt V 2 = xwr V 0 5 0 := rfl
    have e0 : ∀ i : Int, i ≠ 5 → xwr V 0 5 0 0 i = V 0 i := fun i hi => xwr_n _ (fun x => hi x.2)
    rw [e] at g3 W ⊢
    refine xEf_mk Q w hp g3 W.2.2.1 (e0 0 (by decide)) (e0 1 (by decide)) (fun d h d0 d1 _ _ => ?_) (fun d d0 d1 => ?_) (fun b b0 b1 => ?_) (fun j _ _ => ⟨xwr_r _ _ (by decide), xwr_r _ _ (by decide), xwr_r _ _ (by decide)⟩) (Or.inl ⟨g30, e0 7 (by decide)⟩)
    · rw [xwr_r _ _ (by decide), g23, g35]; simp
    · rw [e0 0 (by decide)] at d1
      have m9 := xbt_mk 9 (by decide) d0 (show d < 32 by omega)
      rw [show (2 : Int) ^ 9 - 1 = 511 from rfl, decide_eq_true (show d < ((9 : Nat) : Int) by omega)] at m9
      rw [g25, g26, g27, g28, xwr_r 1 _ (by decide), xwr_r 2 _ (by decide), xwr_r 3 _ (by decide), e0 4 (by decide), xwr_s, if_pos rfl, m9]; simp [xbt_0]
    · rw [g24, xwr_r _ _ (by decide)]; simp
  · have e : xOt V 3 = xFl V 1 9 0 := rfl
    rw [e] at g3 W ⊢
    refine xEf_mk Q w hp g3 W.2.2.1 (xFl_r _ _ (by decide)) (xFl_r _ _ (by decide)) (fun d h d0 d1 _ _ => ?_) (fun d d0 d1 => ?_) (fun b b0 b1 => ?_) (fun j _ _ => ⟨xFl_r _ _ (by decide), xFl_r _ _ (by decide), xFl_r _ _ (by decide)⟩) (Or.inl ⟨g30, xFl_r _ _ (by decide)⟩)
    · rw [xFl_r _ _ (by decide), g23, g35]; simp
    · rw [xFl_r _ _ (by decide)] at d1
      rw [g25, g26, g27, g28, xFl_s d d0 (by omega), xFl_r 2 _ (by decide), xFl_r 3 _ (by decide), xFl_r 0 _ (by decide), xFl_r 0 _ (by decide)]; simp [xbt_0]
    · rw [g24, xFl_r _ _ (by decide)]; simp
  · have e : xOt V 4 = xwr V 0 3 (if V 0 3 = 0 then 1 else 0) := rfl
    have e0 : ∀ i : Int, i ≠ 3 → xwr V 0 3 (if V 0 3 = 0 then 1 else 0) 0 i = V 0 i := fun i hi => xwr_n _ (fun x => hi x.2)
    rw [e] at g3 W ⊢
    refine xEf_mk Q w hp g3 W.2.2.1 (e0 0 (by decide)) (e0 1 (by decide)) (fun d h d0 d1 _ _ => ?_) (fun d d0 d1 => ?_) (fun b b0 b1 => ?_) (fun j _ _ => ⟨xwr_r _ _ (by decide), xwr_r _ _ (by decide), xwr_r _ _ (by decide)⟩) (Or.inl ⟨g30, e0 7 (by decide)⟩)
    · rw [xwr_r _ _ (by decide), g23, g35]; simp
    · rw [g25, g26, g27, g28, xwr_r 1 _ (by decide), xwr_r 2 _ (by decide), xwr_r 3 _ (by decide), e0 4 (by decide), e0 5 (by decide)]; simp [xbt_0]
    · rw [g24, xwr_r _ _ (by decide)]; simp
theorem xQd_w3 {M V : xM} (h : xQd M 310 0 V) (v : Int) : xQd (xwr M (310 + 7) 3 v) 310 0 V := by
  have e : ∀ a : Int, a ≠ 310 + 7 → xwr M (310 + 7) 3 v a = M a := fun a ha => xwr_a _ ha
  have f : ∀ j : Int, j ≠ 3 → xwr M (310 + 7) 3 v (310 + 7) j = M (310 + 7) j := fun j hj => xwr_n _ (fun x => hj x.2)
  unfold xQd at h ⊢
  have k : ∀ (c : Int) (n : Nat), xnk (xwr M (310 + 7) 3 v) (310 + 9) 0 c n = xnk M (310 + 9) 0 c n := by
    intro c n
    induction n with
    | zero => rfl
    | succ n ih => unfold xnk; rw [ih, e (310 + 9) (by decide)]
  simp only [k]
  rw [e (310 + 6) (by decide), e (310 + 8) (by decide), e (310 + 9) (by decide), e (310 + 10) (by decide), e (310 + 11) (by decide), f (7 * 0) (by decide), f (7 * 0 + 1) (by decide), f (7 * 0 + 4) (by decide), f (7 * 0 + 5) (by decide), f (7 * 0 + 6) (by decide)]
  exact h
def xfg (m : xM) (x : Int) : xM := xwr (xwr (xwr (xwr m 310 23 (if x = 0 then 1 else 0 : Int)) 310 24 (if x = 1 then 1 else 0 : Int)) 310 26 (if x = 2 then 511 else 0 : Int)) 310 25 (if x = 3 then 1 else 0 : Int)
theorem xfg_at (m : xM) (x : Int) : (∀ a : Int, a ≠ 310 → xfg m x a = m a) ∧ (∀ i : Int, i < 23 ∨ 26 < i → xfg m x 310 i = m 310 i) ∧ xfg m x 310 23 = (if x = 0 then 1 else 0) ∧ xfg m x 310 24 = (if x = 1 then 1 else 0) ∧ xfg m x 310 26 = (if x = 2 then 511 else 0) ∧ xfg m x 310 25 = (if x = 3 then 1 else 0) := by
  unfold xfg
  refine ⟨fun a ha => ?_, fun i hi => ?_, ?_, ?_, ?_, ?_⟩
  · rw [xwr_a _ ha, xwr_a _ ha, xwr_a _ ha, xwr_a _ ha]
  · simp only [xwr_at]; rw [if_neg (by omega), if_neg (by omega), if_neg (by omega), if_neg (by omega)]
  · simp [xwr_at]
  · simp [xwr_at]
  · simp [xwr_at]
  · simp [xwr_at]
theorem xOt_3 {V : xM} {x : Int} (h : x ≠ 4) (x0 : 0 ≤ x) (x4 : x ≤ 4) : xOt V x 0 3 = V 0 3 := by
  have hc : x = 0 ∨ x = 1 ∨ x = 2 ∨ x = 3 := by omega
  rcases hc with rfl | rfl | rfl | rfl
  · show xFl V 5 9 0 0 3 = _
    exact xFl_r _ _ (by decide)
  · show xFl V 6 18 9 0 3 = _
    exact xFl_r _ _ (by decide)
  · show xwr V 0 5 0 0 3 = _
    exact xwr_n _ (by decide)
  · show xFl V 1 9 0 0 3 = _
    exact xFl_r _ _ (by decide)
theorem otherQ {m V : xM} {x : Int} (w : xWE V) (hp : 2 ≤ V 0 0) (x0 : 0 ≤ x) (x4 : x ≤ 4) (Q : xQ0 m 310 0 V) (P : xPl m 310) (v : Int) (hv : v = xmm V) : xP (if x = 4 then (fQ_other_L124 310 x v (xwr (xfg m x) (310 + 7) 3 (xw32 (1 - (xfg m x) (310 + 7) 3)))) else (xB (fQ_mostNow 310 (xfg m x)) (fun q_ => match q_ with | (v5, m5) => if x = 4 then (some ((xw32 (v5 - v)), (xwr m5 (310 + 7) 3 (xw32 (1 - (m5 (310 + 7) 3)))))) else (some ((xw32 (v5 - v)), m5))))) (fun r => r.1 = xmm (xOt V x) - xmm V ∧ xKp m r.2) := by
  obtain ⟨fa, fi, f23, f24, f26, f25⟩ := xfg_at m x
  obtain ⟨p1, p2, p3, p4, p5, p6, p7, p8, p9⟩ := P
  have b1 := xmm_b V
  have b2 := xmm_b (xOt V x)
  have W := WF_Ot (x := x) w.1
  have Qf : xQd (xfg m x) 310 0 V := xQd_go Q.1 (fun a _ _ => fa a (by omega))
  have kf : xKp m (xfg m x) := by
    refine ⟨fun a ha => fa a (by unfold xPer at ha; omega), fi 6 (by omega), fi 14 (by omega), fi 15 (by omega)⟩
  have r3 : xfg m x (310 + 7) 3 = V 0 3 := by rw [fa _ (by decide)]; exact Q.2
  have hR := w.1.2.2.1
  by_cases e : x = 4
  · rw [if_pos e]
    unfold fQ_other_L124
    rw [r3, xw32_id (by omega) (by omega)]
    obtain ⟨k, hk⟩ : ∃ k : xM, k = xwr (xfg m x) (310 + 7) 3 (1 - V 0 3) := ⟨_, rfl⟩
    have ka : ∀ a : Int, a ≠ 310 + 7 → k a = xfg m x a := fun a ha => by rw [hk]; exact xwr_a _ ha
    have k3 : k (310 + 7) 3 = 1 - V 0 3 := by rw [hk]; exact xwr_s _ _ _ _
    have kn : ∀ j : Int, j ≠ 3 → k (310 + 7) j = xfg m x (310 + 7) j := fun j hj => by rw [hk]; exact xwr_n _ (fun y => hj y.2)
    have Qk : xQd k 310 0 V := by rw [hk]; exact xQd_w3 Qf _
    rw [← hk]
    have o3 : xOt V x 0 3 = 1 - V 0 3 := by
      rw [e]
      show xwr V 0 3 (if V 0 3 = 0 then 1 else 0) 0 3 = _
      rw [xwr_s]; split <;> omega
    have E := otherE (k := k) (x := x) Qk w hp x0 x4 (by rw [k3, o3]) (by rw [ka _ (by decide)]; exact f23) (by rw [ka _ (by decide)]; exact f24) (by rw [ka _ (by decide)]; exact f26) (by rw [ka _ (by decide)]; exact f25) (by rw [ka _ (by decide), fi _ (by omega)]; exact p5) (by rw [ka _ (by decide), fi _ (by omega)]; exact p6) (by rw [ka _ (by decide), fi _ (by omega)]; exact p8) (by rw [ka _ (by decide), fi _ (by omega)]; exact p9)
    refine xP_B (ifQ E W (by rw [ka _ (by decide), fi _ (by omega)]; exact p7)) ?_
    rintro ⟨u, m4⟩ ⟨e2, -, f⟩
    have e2 : u = xmm (xOt V x) := e2
    have f : xFq 310 k m4 := f
    show xP (if x = 4 then _ else _) _
    rw [if_pos e]
    refine xP_some ⟨?_, ?_⟩
    · show xw32 (u - v) = _
      rw [e2, hv, xw32_id (by omega) (by omega)]
    · show xKp m (xwr m4 (310 + 7) 3 (xw32 (1 - m4 (310 + 7) 3)))
      have m43 : m4 (310 + 7) 3 = 1 - V 0 3 := by rw [f _ (by decide) (by decide)]; exact k3
      rw [m43, xw32_id (by omega) (by omega), show 1 - (1 - V 0 3) = V 0 3 by omega]
      have row : xwr m4 (310 + 7) 3 (V 0 3) (310 + 7) = m (310 + 7) := by
        funext j
        rw [xwr_at]
        by_cases ej : j = 3
        · rw [if_pos ⟨rfl, ej⟩, ej]; exact Q.2.symm
        · rw [if_neg (fun y => ej y.2), f _ (by decide) (by decide), kn j ej, fa _ (by decide)]
      refine ⟨fun a ha => ?_, ?_, ?_, ?_⟩
      · by_cases ea : a = 310 + 7
        · rw [ea]; exact row
        · rw [xwr_a _ ea, f a (by unfold xPer at ha; omega) (by unfold xPer at ha; omega), ka a ea]
          exact kf.1 a ha
      · rw [xwr_a _ (by decide), f _ (by decide) (by decide), ka _ (by decide)]; exact kf.2.1
      · rw [xwr_a _ (by decide), f _ (by decide) (by decide), ka _ (by decide)]; exact kf.2.2.1
      · rw [xwr_a _ (by decide), f _ (by decide) (by decide), ka _ (by decide)]; exact kf.2.2.2
  · rw [if_neg e]
    have E := otherE (k := xfg m x) (x := x) Qf w hp x0 x4 (by rw [r3, xOt_3 e x0 x4]) f23 f24 f26 f25 (by rw [fi _ (by omega)]; exact p5) (by rw [fi _ (by omega)]; exact p6) (by rw [fi _ (by omega)]; exact p8) (by rw [fi _ (by omega)]; exact p9)
    refine xP_B (ifQ E W (by rw [fi _ (by omega)]; exact p7)) ?_
    rintro ⟨u, m4⟩ ⟨e2, -, f⟩
    have e2 : u = xmm (xOt V x) := e2
    show xP (if x = 4 then _ else _) _
    rw [if_neg e]
    refine xP_some ⟨?_, xKp_tr kf (xFq_kp f)⟩
    show xw32 (u - v) = _
    rw [e2, hv, xw32_id (by omega) (by omega)]
theorem call_41 {M : xM} (S : Sim M) (x : Int) : xC2 (fD_other 1 x M) (fQ_other 310 x) M := by
  obtain ⟨V, hv, W, Q, L⟩ := opn2 S
  have hN := W.1.1
  by_cases h1 : 0 < V 0 0 ∧ 0 ≤ x ∧ x ≤ 4 ∧ ¬ (x = 4 ∧ V 0 0 = 2)
  · obtain ⟨h1, x0, x4, h2⟩ := h1
    have p2 := W2p W h1
    refine xC2_of (A := fun r => r = xmm (xOt V x) - xmm V) ?_ (fun m k => ?_) (fun r s a b => a.trans b.symm)
    · unfold fD_other
      rw [stands_s, xPv_0 hv 0 (by decide) (by decide)]
      simp only [if10]
      rw [if_neg (not_not_intro h1), if_neg (show ¬ x < 0 by omega), if_neg (show ¬ 4 < x by omega), if_pos (show (if x = 4 then (if V 0 0 < 3 then 1 else 0 : Int) else 0 : Int) = 0 by (repeat' split) <;> omega)]
      refine xP_B (copyD W (L p2).1) ?_
      rintro k ⟨f, v⟩
      have v3 : k (1 + 15) 3 = V 0 3 := by rw [f _ (by decide)]; exact xPv_0 hv 3 (by decide) (by decide)
      rw [if_neg (show ¬ x < 0 by omega)]
      have hc : x = 0 ∨ x = 1 ∨ x = 2 ∨ x = 3 ∨ x = 4 := by omega
      rcases hc with rfl | rfl | rfl | rfl | rfl
      · rw [if_pos (show (0 : Int) - 0 = 0 by decide)]
        refine xP_B (fill_k21_s (1 + 26 + 5) 0 k) ?_
        rintro k2 ⟨f2, g2⟩
        exact otherD W (L p2).1 (xF_tr f (xF_w f2 (by decide) (by decide))) (xPv_f v f2 g2)
      · rw [if_neg (show ¬ (1 : Int) - 0 = 0 by decide), if_pos (show (1 : Int) - 0 - 1 = 0 by decide)]
        refine xP_B (fill_k22_s (1 + 26 + 6) 9 k) ?_
        rintro k2 ⟨f2, g2⟩
        exact otherD W (L p2).1 (xF_tr f (xF_w f2 (by decide) (by decide))) (xPv_f v f2 g2)
      · rw [if_neg (show ¬ (2 : Int) - 0 = 0 by decide), if_neg (show ¬ (2 : Int) - 0 - 1 = 0 by decide), if_pos (show (2 : Int) - 0 - 1 - 1 = 0 by decide)]
        exact otherD W (L p2).1 (xwr_F f (by decide) (by decide)) (xPv_w0 v 5 0)
      · rw [if_neg (show ¬ (3 : Int) - 0 = 0 by decide), if_neg (show ¬ (3 : Int) - 0 - 1 = 0 by decide), if_neg (show ¬ (3 : Int) - 0 - 1 - 1 = 0 by decide), if_pos (show (3 : Int) - 0 - 1 - 1 - 1 = 0 by decide)]
        refine xP_B (fill_k21_s (1 + 26 + 1) 0 k) ?_
        rintro k2 ⟨f2, g2⟩
        exact otherD W (L p2).1 (xF_tr f (xF_w f2 (by decide) (by decide))) (xPv_f v f2 g2)
      · rw [if_neg (show ¬ (4 : Int) - 0 = 0 by decide), if_neg (show ¬ (4 : Int) - 0 - 1 = 0 by decide), if_neg (show ¬ (4 : Int) - 0 - 1 - 1 = 0 by decide), if_neg (show ¬ (4 : Int) - 0 - 1 - 1 - 1 = 0 by decide), v3]
        exact otherD W (L p2).1 (xwr_F f (by decide) (by decide)) (xPv_w0 v 3 _)
    · obtain ⟨k2, Q2⟩ := Q m k
      have q0 : xwr m 310 0 0 (310 + 7) 0 = V 0 0 := Q2.1.1.2.1
      have run : xP (xB (fQ_mostPlain 310 (xwr m 310 0 0)) (fun q_ => match q_ with | (v3, m3) => if x = 4 then (fQ_other_L124 310 x v3 (xwr (xfg m3 x) (310 + 7) 3 (xw32 (1 - (xfg m3 x) (310 + 7) 3)))) else (xB (fQ_mostNow 310 (xfg m3 x)) (fun q_ => match q_ with | (v5, m5) => if x = 4 then (some ((xw32 (v5 - v3)), (xwr m5 (310 + 7) 3 (xw32 (1 - (m5 (310 + 7) 3)))))) else (some ((xw32 (v5 - v3)), m5)))))) (fun r => r.1 = xmm (xOt V x) - xmm V ∧ xKp m r.2) := by
        refine xP_B (nowQ Q2 W p2) ?_
        rintro ⟨v, m3⟩ ⟨e, -, kk, P⟩
        refine xP_mono (otherQ W p2 x0 x4 (xQ0_kp Q2 kk) P v e) ?_
        rintro r ⟨a, b⟩
        exact ⟨a, xKp_tr k2 (xKp_tr kk b)⟩
      unfold fQ_other
      rw [qPrison_s Q2 W, fQ_in_s, q0]
      simp only [if10]
      rw [if_neg (not_not_intro h1), if_neg (not_not_intro ⟨x0, x4⟩)]
      by_cases e : x = 4
      · rw [if_pos e, if_neg (show ¬ V 0 0 = 2 from fun y => h2 ⟨e, y⟩)]
        exact run
      · rw [if_neg e]
        exact run
  · have d : fD_other 1 x M = some (-1000, M) := by
      unfold fD_other
      rw [stands_s, xPv_0 hv 0 (by decide) (by decide)]
      simp only [if10]
      by_cases a : 0 < V 0 0
      · rw [if_neg (not_not_intro a)]
        by_cases b : x < 0
        · rw [if_pos b]
        · rw [if_neg b]
          by_cases c : 4 < x
          · rw [if_pos c]
          · have p2 := W2p W a
            have z : x = 4 ∧ V 0 0 = 2 := Classical.byContradiction (fun y => h1 ⟨a, by omega, by omega, y⟩)
            rw [if_neg c, if_neg (show ¬ (if x = 4 then (if V 0 0 < 3 then 1 else 0 : Int) else 0 : Int) = 0 by rw [if_pos z.1, if_pos (by omega)]; decide)]
      · rw [if_pos a]
    rw [d]
    refine xC2_n (k := fun m => xwr m 310 0 0) (fun m k => ?_)
    obtain ⟨k2, Q2⟩ := Q m k
    have q0 : xwr m 310 0 0 (310 + 7) 0 = V 0 0 := Q2.1.1.2.1
    refine ⟨?_, k2⟩
    unfold fQ_other
    rw [qPrison_s Q2 W, fQ_in_s, q0]
    simp only [if10]
    by_cases a : 0 < V 0 0
    · rw [if_neg (not_not_intro a)]
      by_cases b : 0 ≤ x ∧ x ≤ 4
      · have z : x = 4 ∧ V 0 0 = 2 := Classical.byContradiction (fun y => h1 ⟨a, b.1, b.2, y⟩)
        rw [if_neg (not_not_intro b), if_pos z.1, if_pos z.2]
      · rw [if_pos b]
    · rw [if_pos a]
end
