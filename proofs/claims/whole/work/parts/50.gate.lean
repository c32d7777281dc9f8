/-! what each call begins with, on both sides -/
noncomputable section
theorem xQd_go {M m V : xM} {w : Int} (h : xQd M 310 w V) (e : ∀ a : Int, 316 ≤ a → a ≤ 321 → m a = M a) : xQd m 310 w V := by
  unfold xQd at h ⊢
  have k : ∀ (c : Int) (n : Nat), xnk m (310 + 9) w c n = xnk M (310 + 9) w c n := by
    intro c n
    induction n with
    | zero => rfl
    | succ n ih => unfold xnk; rw [ih, e (310 + 9) (by decide) (by decide)]
  simp only [k]
  rw [e (310 + 6) (by decide) (by decide), e (310 + 7) (by decide) (by decide), e (310 + 8) (by decide) (by decide), e (310 + 9) (by decide) (by decide), e (310 + 10) (by decide) (by decide), e (310 + 11) (by decide) (by decide)]
  exact h
theorem xQ0_kp {M m V : xM} {w : Int} (h : xQ0 M 310 w V) (k : xKp M m) : xQ0 m 310 w V :=
  ⟨xQd_go h.1 (fun a a0 a1 => k.1 a (by unfold xPer; omega)), by rw [k.1 (310 + 7) (by unfold xPer; omega)]; exact h.2⟩
theorem xWE_go {V U : xM} (h : xWE V) (e : ∀ a i : Int, 0 ≤ a → a ≤ 10 → U a i = V a i) : xWE U := by
  have e0 := fun i => e 0 i (by decide) (by decide)
  have e1 := fun i => e 1 i (by decide) (by decide)
  have e2 := fun i => e 2 i (by decide) (by decide)
  have e3 := fun i => e 3 i (by decide) (by decide)
  have e5 := fun i => e 5 i (by decide) (by decide)
  have e6 := fun i => e 6 i (by decide) (by decide)
  have e8 := fun i => e 8 i (by decide) (by decide)
  have e10 := fun i => e 10 i (by decide) (by decide)
  unfold xWE xWF at h ⊢
  simp only [e0, e1, e2, e3, e5, e6, e8, e10]
  exact h
theorem xnv_go {V U : xM} (e : ∀ a i : Int, 0 ≤ a → a ≤ 10 → U a i = V a i) (c s : Int) : xnv U c s = xnv V c s := by
  unfold xnv; rw [e 0 0 (by decide) (by decide), e 0 3 (by decide) (by decide)]
theorem xQ0_V {M V U : xM} {q w : Int} (h : xQ0 M q w V) (e : ∀ a i : Int, 0 ≤ a → a ≤ 10 → U a i = V a i) : xQ0 M q w U := by
  have e0 := fun i => e 0 i (by decide) (by decide)
  have e1 := fun i => e 1 i (by decide) (by decide)
  have e2 := fun i => e 2 i (by decide) (by decide)
  have e3 := fun i => e 3 i (by decide) (by decide)
  have e4 := fun i => e 4 i (by decide) (by decide)
  have e5 := fun i => e 5 i (by decide) (by decide)
  have e6 := fun i => e 6 i (by decide) (by decide)
  have e7 := fun i => e 7 i (by decide) (by decide)
  have e8 := fun i => e 8 i (by decide) (by decide)
  have e9 := fun i => e 9 i (by decide) (by decide)
  have e10 := fun i => e 10 i (by decide) (by decide)
  unfold xQ0 xQd at h ⊢
  simp only [e0, e1, e2, e3, e4, e5, e6, e7, e8, e9, e10, xnv_go e]
  exact h
theorem xlk_go {V U : xM} (e : ∀ a i : Int, 0 ≤ a → a ≤ 10 → U a i = V a i) (b h : Int) : xlk U b h = xlk V b h := by
  have k : ∀ n : Nat, xsp U b h n = xsp V b h n := by
    intro n
    induction n with
    | zero => rfl
    | succ n ih => unfold xsp; rw [ih, e 7 _ (by decide) (by decide), e 8 _ (by decide) (by decide), e 9 _ (by decide) (by decide)]
  unfold xlk
  rw [k, e 6 _ (by decide) (by decide), e 0 7 (by decide) (by decide)]
theorem xwo_go {V U : xM} (e : ∀ a i : Int, 0 ≤ a → a ≤ 10 → U a i = V a i) (c s h : Int) : xwo U c s h = xwo V c s h := by
  unfold xwo xwy xhis
  rw [xlk_go e, e 0 0 (by decide) (by decide), e 0 3 (by decide) (by decide), e 0 4 (by decide) (by decide), e 0 5 (by decide) (by decide), e 1 c (by decide) (by decide), e 2 c (by decide) (by decide), e 3 c (by decide) (by decide), e 5 c (by decide) (by decide)]
theorem xop_go {V U : xM} (e : ∀ a i : Int, 0 ≤ a → a ≤ 10 → U a i = V a i) : xop U = xop V ∧ xOk U = xOk V ∧ xT U = xT V ∧ xBr U = xBr V ∧ xN2 U = xN2 V := by
  have t : xT U = xT V := by funext c s h; unfold xT; rw [xwo_go e]
  have n : xN2 U = xN2 V := by funext c d; unfold xN2; rw [xnv_go e, xnv_go e]
  have b : xBr U = xBr V := by funext c d; unfold xBr xLy; rw [n, e 0 4 (by decide) (by decide)]
  have o : xOk U = xOk V := by funext c h; unfold xOk; rw [xnv_go e, xnv_go e, t]
  refine ⟨?_, o, t, b, n⟩
  funext c h s
  unfold xop
  rw [o, b]
theorem xcan_go {V U : xM} (e : ∀ a i : Int, 0 ≤ a → a ≤ 10 → U a i = V a i) : ∀ h : Nat, xcan U h = xcan V h
  | 0 => rfl
  | h + 1 => by
    funext s
    unfold xcan
    rw [xcan_go e h, (xop_go e).1, e 0 0 (by decide) (by decide)]
theorem xgn_go {V U : xM} (e : ∀ a i : Int, 0 ≤ a → a ≤ 10 → U a i = V a i) : ∀ h : Nat, xgn U h = xgn V h
  | 0 => rfl
  | h + 1 => by
    unfold xgn
    rw [xgn_go e h, (xop_go e).1, e 10 _ (by decide) (by decide)]
theorem xLook_V {m V U : xM} {x : Int} (h : xLook m x V) (e : ∀ a i : Int, 0 ≤ a → a ≤ 10 → U a i = V a i) : xLook m x U := by
  obtain ⟨-, o, t, b, n⟩ := xop_go e
  unfold xLook xKO xKT xKD at h ⊢
  simp only [o, t, b, n, xcan_go e, e 0 0 (by decide) (by decide), e 0 1 (by decide) (by decide)]
  exact h
theorem xCs_V {m V U : xM} {k : Int} (h : xCs m k V) (e : ∀ a i : Int, 0 ≤ a → a ≤ 10 → U a i = V a i) : xCs m k U := by
  unfold xCs xcm at h ⊢
  simp only [(xop_go e).1, xgn_go e, e 0 1 (by decide) (by decide), e 10 _ (by decide) (by decide)]
  exact h
theorem Sim_kp {M m : xM} (S : Sim M) (k : xKp M m) : Sim m := by
  obtain ⟨s1, s2, s3, s4, s5, s6⟩ := S
  have p : ∀ a : Int, xPer a → m a = M a := k.1
  have v16 : ∀ a i : Int, 0 ≤ a → a ≤ 10 → xVw m 16 a i = xVw M 16 a i := fun a i a0 a1 => by unfold xVw; rw [p _ (by unfold xPer; omega)]
  refine ⟨?_, ?_, ⟨xWE_go s3.1 v16, xQ0_V (xQ0_kp s3.2 k) v16⟩, fun j j0 j1 => ?_, fun s a b => ?_, fun h => ?_⟩
  · rw [p 3 (by unfold xPer; omega), p 4 (by unfold xPer; omega), p 315 (by unfold xPer; omega), k.2.1]; exact s1
  · rw [p 2 (by unfold xPer; omega), p 13 (by unfold xPer; omega), k.2.2.1, k.2.2.2]; exact s2
  · rw [p 267 (by unfold xPer; omega), p 322 (by unfold xPer; omega)]
    have vk : ∀ a i : Int, 0 ≤ a → a ≤ 10 → xVw m (269 + 11 * j) a i = xVw M (269 + 11 * j) a i := fun a i a0 a1 => by unfold xVw; rw [p _ (by unfold xPer; omega)]
    rcases s4 j j0 j1 with x | ⟨x, y, z, u⟩
    · exact Or.inl x
    · exact Or.inr ⟨x, y, xWE_go z vk, xQ0_V (xQ0_kp u k) vk⟩
  · rw [p 311 (by unfold xPer; omega), p 312 (by unfold xPer; omega), p 313 (by unfold xPer; omega), p (302 + 2 * s) (by unfold xPer; omega), p (303 + 2 * s) (by unfold xPer; omega)]
    exact s5 s a b
  · rw [p 16 (by unfold xPer; omega)] at h
    obtain ⟨x, y⟩ := s6 h
    refine ⟨xLook_V (xLook_go s3.1.1 x (fun a a0 a1 a2 => p a (by unfold xPer; omega))) v16, xCs_V ?_ v16⟩
    unfold xCs at y ⊢
    rw [p (256 + 1) (by unfold xPer; omega), p (256 + 2) (by unfold xPer; omega)]
    exact y
theorem hasCell_s (p c : Int) (M : xM) : fPrison_hasCell p c M = if 0 ≤ c ∧ c < M p 0 then 1 else 0 := by
  unfold fPrison_hasCell; (repeat' split) <;> omega
theorem hasHour_s (p c : Int) (M : xM) : fPrison_hasHour p c M = if 0 ≤ c ∧ c < M p 1 then 1 else 0 := by
  unfold fPrison_hasHour; (repeat' split) <;> omega
theorem isSide_s (s : Int) (M : xM) : fD_isSide s M = if s = 0 ∨ s = 1 then 1 else 0 := by
  unfold fD_isSide; (repeat' split) <;> omega
theorem stands_s (p : Int) (M : xM) : fPrison_stands p M = if 0 < M p 0 then 1 else 0 := rfl
theorem isSlot_s (s : Int) (M : xM) : fD_isSlot s M = if 0 ≤ s ∧ s ≤ 3 then 1 else 0 := by
  unfold fD_isSlot; (repeat' split) <;> omega
theorem qCell_s {M V : xM} (Q : xQ0 M 310 0 V) (w : xWE V) (c : Int) : fQ_isCell 310 c M = if 0 ≤ c ∧ c < V 0 0 then 1 else 0 := by
  have h0 : M (310 + 7) 0 = V 0 0 := Q.1.1.2.1
  have := w.1.1
  unfold fQ_isCell
  rw [fQ_in_s, h0, xw64_id (by omega) (by omega)]
  (repeat' split) <;> omega
theorem qHour_s {M V : xM} (Q : xQ0 M 310 0 V) (w : xWE V) (c : Int) : fQ_isHour 310 c M = if 0 ≤ c ∧ c < V 0 1 then 1 else 0 := by
  have h0 : M (310 + 7) 1 = V 0 1 := Q.1.1.2.2.1
  have := w.1.2.1
  unfold fQ_isHour
  rw [fQ_in_s, h0, xw64_id (by omega) (by omega)]
  (repeat' split) <;> omega
theorem qSide_s (s : Int) (M : xM) : fQ_isSide s M = if s = 0 ∨ s = 1 then 1 else 0 := by
  unfold fQ_isSide; rw [fQ_in_s]; (repeat' split) <;> omega
theorem qSlot_s (s : Int) (M : xM) : fQ_isSlot s M = if 0 ≤ s ∧ s ≤ 3 then 1 else 0 := by
  unfold fQ_isSlot; rw [fQ_in_s]
theorem qPrison_s {M V : xM} (Q : xQ0 M 310 0 V) (w : xWE V) : fQ_isPrison 310 M = if 0 < V 0 0 then 1 else 0 := by
  have h0 : M (310 + 6) 0 = V 0 2 := Q.1.1.1
  have a := w.1.1
  have b := w.2.2.2.2.2.1
  have c := w.2.2.2.2.2.2.1
  unfold fQ_isPrison
  rw [h0]
  (repeat' split) <;> omega
theorem xKp_w {M m : xM} {i v : Int} (h : xKp M m) (h1 : i ≠ 6) (h2 : i ≠ 14) (h3 : i ≠ 15) : xKp M (xwr m 310 i v) := by
  refine ⟨fun a ha => ?_, ?_, ?_, ?_⟩
  · rw [xwr_a _ (by unfold xPer at ha; omega)]; exact h.1 a ha
  · rw [xwr_n _ (by omega)]; exact h.2.1
  · rw [xwr_n _ (by omega)]; exact h.2.2.1
  · rw [xwr_n _ (by omega)]; exact h.2.2.2
theorem xKp_c {M m k : xM} (h : xKp M m) (e : ∀ a : Int, (xPer a ∨ a = 310) → k a = m a) : xKp M k := by
  refine ⟨fun a ha => (e a (Or.inl ha)).trans (h.1 a ha), ?_, ?_, ?_⟩ <;> rw [e 310 (Or.inr rfl)]
  · exact h.2.1
  · exact h.2.2.1
  · exact h.2.2.2
theorem xKp_F {M m : xM} {lo hi : Int} (f : xF lo hi M m) (h : ∀ a : Int, lo ≤ a → a ≤ hi → ¬ (xPer a ∨ a = 310)) : xKp M m :=
  xKp_c (xKp_rfl M) (fun a ha => f a (by
    have := h a
    by_cases x : lo ≤ a
    · by_cases y : a ≤ hi
      · exact absurd ha (this x y)
      · omega
    · omega))
theorem plainly_kp (M : xM) : xKp M (fQ_plainly 310 M) := by
  obtain ⟨-, a, b⟩ := plainly_s 310 M
  refine ⟨fun x hx => a x (by unfold xPer at hx; omega), b 6 (by omega), b 14 (by omega), b 15 (by omega)⟩
/-- the two answers are alike, and what matters is kept -/
def xC1 (d : Option Int) (q : Option (Int × xM)) (M : xM) : Prop := ∃ (r : Int) (m : xM), d = some r ∧ q = some (r, m) ∧ xKp M m
def xC2 (d : Option (Int × xM)) (q : xM → Option (Int × xM)) (M : xM) : Prop := ∃ (r : Int) (m1 m2 : xM), d = some (r, m1) ∧ xKp M m1 ∧ q m1 = some (r, m2) ∧ xKp m1 m2
theorem xC1_of {d : Option Int} {q : Option (Int × xM)} {M : xM} {A : Int → Prop} (hd : xP d A) (hq : xP q (fun x => A x.1 ∧ xKp M x.2)) (one : ∀ r s : Int, A r → A s → r = s) : xC1 d q M := by
  obtain ⟨r, e1, a⟩ := hd
  obtain ⟨⟨s, m⟩, e2, b, k⟩ := hq
  have := one r s a b
  subst this
  exact ⟨r, m, e1, e2, k⟩
theorem xC1_eq {d : Option Int} {q : Option (Int × xM)} {M m : xM} {r : Int} (hd : d = some r) (hq : q = some (r, m)) (k : xKp M m) : xC1 d q M := ⟨r, m, hd, hq, k⟩
theorem xC2_of {d : Option (Int × xM)} {q : xM → Option (Int × xM)} {M : xM} {A : Int → Prop} (hd : xP d (fun x => A x.1 ∧ xKp M x.2)) (hq : ∀ m : xM, xKp M m → xP (q m) (fun x => A x.1 ∧ xKp m x.2)) (one : ∀ r s : Int, A r → A s → r = s) : xC2 d q M := by
  obtain ⟨⟨r, m1⟩, e1, a, k1⟩ := hd
  obtain ⟨⟨s, m2⟩, e2, b, k2⟩ := hq m1 k1
  have := one r s a b
  subst this
  exact ⟨r, m1, m2, e1, k1, e2, k2⟩
/-! the reference: lays, asTold, mostPlain -/
theorem lays_s {M V : xM} (Q : xQ0 M 310 0 V) (w : xWE V) (hp : 2 ≤ V 0 0) : xP (fQ_lays 310 M) (fun m => xKp M m ∧ xEf m 310 V ∧ xWd m 310 V (fun _ => false) ∧ xPl m 310) := by
  have k := plainly_kp M
  have pl := (plainly_s 310 M).1
  have E := xEf_pl (xQ0_kp Q k) w hp pl
  unfold fQ_lays
  refine xP_B (would_s E w.1) ?_
  rintro m ⟨f, E1, D⟩
  refine xP_some ⟨xKp_tr k (xKp_F f (fun a a0 a1 => by unfold xPer; omega)), E1, fun h s c a b d e g => by rw [D h s c a b d e g]; show (_ && !xbt (fQ_plainly 310 M 310 29) c) = _; rw [pl.2.2.2.2.2.2.1, xbt_0], ?_⟩
  unfold xPl at pl ⊢
  rw [f 310 (by omega)]
  exact pl
theorem xgn_rg {V : xM} (w : xWE V) : ∀ h : Nat, (h : Int) ≤ 24 → 0 ≤ xgn V h ∧ xgn V h < 512
  | 0, _ => by unfold xgn; decide
  | h + 1, hh => by
    have ih := xgn_rg w h (by omega)
    have p := w.1.2.2.2.2.2.2.2.2.2 (h : Int) (by omega) (by omega)
    unfold xgn
    split
    · next x => exact xad_rg (n := 9) ih.1 ih.2 (by omega) (by omega) (by decide)
    · exact ih
theorem xplan {V : xM} (w : xWE V) {h : Int} (h0 : 0 ≤ h) (h1 : h < V 0 1) (hn : V 10 h ≠ -1) : 0 ≤ V 10 h ∧ V 10 h < V 0 0 := by
  have z0 := w.1.2.1
  have z1 := w.2.1
  have z2 := w.2.2.2.1
  have a := w.1.2.2.2.2.2.2.2.2.2 h h0 (by omega)
  have b := w.2.2.2.2.2.2.2.2.2.2.2.2 h h0 (by omega)
  omega
theorem goes_L {V M : xM} {q : Int} (E : xEf M q V) (D : xWd M q V (fun _ => false)) (w : xWE V) (hpl : ∀ h : Int, 0 ≤ h → h < 24 → M (q + 11) h = V 10 h) : ∀ (n g i : Nat) (m : xM), n < g → (i : Int) + n = V 0 1 → xF (q + 15) (q + 16) M m → (∀ h : Nat, h < i → m (q + 15) h = xcm V h ∧ m (q + 16) h = xgn V (h + 1)) → xP (fQ_goes_L4 g q (xgn V i) (i : Int) m) (fun m' => xF (q + 15) (q + 16) M m' ∧ ∀ h : Nat, (h : Int) < V 0 1 → m' (q + 15) h = xcm V h ∧ m' (q + 16) h = xgn V (h + 1))
  | _, 0, _, _, hg, _, _, _ => absurd hg (Nat.not_lt_zero _)
  | 0, g + 1, i, m, _, hi, hF, hm => by
    unfold fQ_goes_L4
    rw [hF (q + 7) (by omega), E.1.2.1, if_neg (by omega)]
    exact xP_some ⟨hF, fun h hh => hm h (by omega)⟩
  | n + 1, g + 1, i, m, hg, hi, hF, hm => by
    have hN := w.1.1
    have hH := w.1.2.1
    have gr := xgn_rg w i (by omega)
    have Em : xEf m q V := xEf_go E (fun j _ _ => by rw [hF q (by omega)]) (hF _ (by omega)) (hF _ (by omega)) (hF _ (by omega)) (hF _ (by omega)) (hF _ (by omega))
    have Dm : xWd m q V (fun _ => false) := xWd_go D (hF _ (by omega))
    have next : ∀ (y : Int), y = xcm V i → xP (fQ_goes_L46 (fQ_goes_L4 g) q (xgn V i) (i : Int) (V 10 (i : Int)) y (i : Int) (q + 15) m) (fun m' => xF (q + 15) (q + 16) M m' ∧ ∀ h : Nat, (h : Int) < V 0 1 → m' (q + 15) h = xcm V h ∧ m' (q + 16) h = xgn V (h + 1)) := by
      intro y hy
      have fin : ∀ (z : Int), z = xgn V (i + 1) → xP (fQ_goes_L4 g q z ((i : Int) + 1) (xwr (xwr m (q + 15) (i : Int) y) (q + 16) (i : Int) z)) (fun m' => xF (q + 15) (q + 16) M m' ∧ ∀ h : Nat, (h : Int) < V 0 1 → m' (q + 15) h = xcm V h ∧ m' (q + 16) h = xgn V (h + 1)) := by
        intro z hz
        rw [hz]
        refine goes_L E D w hpl n g (i + 1) _ (by omega) (by omega) (xwr_F (xwr_F hF (by omega) (by omega)) (by omega) (by omega)) (fun h hh => ?_)
        by_cases e : h = i
        · subst e
          rw [xwr_s, xwr_n _ (by omega), xwr_s]
          exact ⟨hy, rfl⟩
        · rw [xwr_n _ (by omega), xwr_n _ (by omega), xwr_n _ (by omega), xwr_n _ (by omega)]
          exact hm h (by omega)
      unfold fQ_goes_L46
      rw [xA_p (by omega), xA_p (by omega), xwr_s, xw32_id (by omega) (by omega)]
      by_cases e : y = -1
      · rw [if_pos e, xA_p (by omega)]
        refine fin _ ?_
        rw [e] at hy
        unfold xcm at hy
        rw [xgn]
        split at hy
        · next x => exact absurd hy.symm x.1
        · next x => rw [if_neg x]
      · rw [if_neg e, xA_p (by omega)]
        refine fin _ ?_
        unfold xcm at hy
        rw [xgn]
        split at hy
        · next x => rw [if_pos x]; rfl
        · exact absurd hy e
    unfold fQ_goes_L4
    rw [hF (q + 7) (by omega), E.1.2.1, if_pos (by omega), xA_p (by omega), hF (q + 11) (by omega), hpl _ (by omega) (by omega)]
    by_cases e : V 10 (i : Int) = -1
    · rw [if_pos e]
      exact next _ (by unfold xcm; rw [if_neg (fun x => x.1 e)])
    · have hc := xplan w (by omega) (by omega) e
      rw [if_neg e, opens_s Em Dm w.1 hc.1 hc.2 (by omega) (by omega), xB_s]
      by_cases o : xop V (V 10 (i : Int)) i (xgn V i) = true
      · rw [if_neg (by rw [if_pos o]; decide)]
        exact next _ (by unfold xcm; rw [if_pos ⟨e, o⟩])
      · rw [if_pos (by rw [if_neg o])]
        exact next _ (by unfold xcm; rw [if_neg (fun x => o x.2)])
theorem asTold_s {M V : xM} (Q : xQ0 M 310 0 V) (w : xWE V) (hp : 2 ≤ V 0 0) : xP (fQ_asTold 310 M) (fun m => xKp M m ∧ xEf m 310 V ∧ xWd m 310 V (fun _ => false) ∧ xPl m 310 ∧ ∀ h : Nat, (h : Int) < V 0 1 → m 325 h = xcm V h ∧ m 326 h = xgn V (h + 1)) := by
  have hH := w.1.2.1
  unfold fQ_asTold
  refine xP_B (lays_s Q w hp) ?_
  rintro m ⟨k, E, D, P⟩
  have Q1 := xQ0_kp Q k
  have pl : ∀ h : Int, 0 ≤ h → h < 24 → m (310 + 11) h = V 10 h := fun h h0 h1 => by
    have := Q1.1.2.2.2.2.2 h h0 h1
    rwa [show 24 * (0 : Int) + h = h by omega] at this
  unfold fQ_goes
  refine xP_B (goes_L E D w pl (V 0 1).toNat 20001 0 m (by omega) (by omega) (xF_rfl _ _ _) (fun h hh => absurd hh (by omega))) ?_
  rintro m2 ⟨f, hm⟩
  refine xP_some ⟨xKp_tr k (xKp_F f (fun a a0 a1 => by unfold xPer; omega)), xEf_go E (fun j _ _ => by rw [f 310 (by omega)]) (f _ (by omega)) (f _ (by omega)) (f _ (by omega)) (f _ (by omega)) (f _ (by omega)), xWd_go D (f _ (by omega)), ?_, hm⟩
  unfold xPl at P ⊢
  rw [f 310 (by omega)]
  exact P
theorem xFq_kp {M m : xM} (f : xFq 310 M m) : xKp M m := xKp_c (xKp_rfl M) (fun a ha => f a (by unfold xPer at ha; omega) (by unfold xPer at ha; omega))
theorem mostPlain_s {M V : xM} (Q : xQ0 M 310 0 V) (w : xWE V) (hp : 2 ≤ V 0 0) : xP (fQ_mostPlain 310 M) (fun r => xMx (xcan V (V 0 1).toNat) r.1 ∧ xKp M r.2 ∧ xEf r.2 310 V ∧ xWd r.2 310 V (fun _ => false) ∧ xPl r.2 310 ∧ ∀ h : Nat, (h : Int) ≤ V 0 1 → xRw r.2 310 h (xcan V h)) := by
  have k := plainly_kp M
  have pl := (plainly_s 310 M).1
  have E := xEf_pl (xQ0_kp Q k) w hp pl
  unfold fQ_mostPlain
  refine xP_B (qmost_s E w.1 pl.2.2.2.2.2.2.1) ?_
  rintro ⟨v, m⟩ ⟨h1, h2, h3, h4, h5⟩
  refine xP_some ⟨h1, xKp_tr k (xFq_kp h2), h3, h4, ?_, h5⟩
  have e : m 310 = fQ_plainly 310 M 310 := h2 310 (by decide) (by decide)
  show xPl m 310
  unfold xPl at pl ⊢
  rw [e]
  exact pl
/-! the class: what comes of the plan; settle -/
theorem follow_L {V M : xM} {k p kk : Int} (hv : xPv M p V) (hk : xKO M kk V) (w : xWE V) (d1 : k + 2 < p ∨ p + 10 < k + 1) (d2 : k + 2 < kk ∨ kk + 5 < k + 1) : ∀ (n g i : Nat) (m : xM), n < g → (i : Int) + n = V 0 1 → xF (k + 1) (k + 2) M m → (∀ h : Nat, h < i → m (k + 1) h = xcm V h ∧ m (k + 2) h = xgn V (h + 1)) → xP (fCourse_follow_L5 g k p kk (xgn V i) (i : Int) m) (fun m' => xF (k + 1) (k + 2) M m' ∧ xCs m' k V)
  | _, 0, _, _, hg, _, _, _ => absurd hg (Nat.not_lt_zero _)
  | 0, g + 1, i, m, _, hi, hF, hm => by
    unfold fCourse_follow_L5
    rw [xPv_0 (xPv_go hv (fun a _ _ => hF a (by omega))) 1 (by decide) (by decide), if_neg (by omega)]
    exact xP_some ⟨hF, fun h hh => hm h (by omega)⟩
  | n + 1, g + 1, i, m, hg, hi, hF, hm => by
    have hN := w.1.1
    have hH := w.1.2.1
    have gr := xgn_rg w i (by omega)
    have hv' : xPv m p V := xPv_go hv (fun a _ _ => hF a (by omega))
    have hk' : xKO m kk V := xKO_go hk (fun a _ _ => hF a (by omega))
    have fin : ∀ (y z : Int), y = xcm V i → z = xgn V (i + 1) → xP (fCourse_follow_L5 g k p kk z ((i : Int) + 1) (xwr (xwr m (k + 1) (i : Int) y) (k + 2) (i : Int) z)) (fun m' => xF (k + 1) (k + 2) M m' ∧ xCs m' k V) := by
      intro y z hy hz
      rw [hz]
      refine follow_L hv hk w d1 d2 n g (i + 1) _ (by omega) (by omega) (xwr_F (xwr_F hF (by omega) (by omega)) (by omega) (by omega)) (fun h hh => ?_)
      by_cases e : h = i
      · subst e
        rw [xwr_s, xwr_n _ (by omega), xwr_s]
        exact ⟨hy, rfl⟩
      · rw [xwr_n _ (by omega), xwr_n _ (by omega), xwr_n _ (by omega), xwr_n _ (by omega)]
        exact hm h (by omega)
    have zero : xcm V i = -1 → xP (fCourse_follow_L46 (fCourse_follow_L5 g) k p kk (xgn V i) (i : Int) (V 10 (i : Int)) 0 m) (fun m' => xF (k + 1) (k + 2) M m' ∧ xCs m' k V) := by
      intro hc
      unfold fCourse_follow_L46 fCourse_follow_L65
      rw [if_pos rfl, xA_p (by omega), if_pos rfl, xA_p (by omega), xw32_id (by omega) (by omega), xor_0r (by constructor <;> omega)]
      refine fin _ _ hc.symm ?_
      unfold xcm at hc
      rw [xgn]
      split at hc
      · next x => exact absurd hc x.1
      · next x => rw [if_neg x]
    unfold fCourse_follow_L5
    rw [xPv_0 hv' 1 (by decide) (by decide), if_pos (by omega), xA_p (by omega), xPv_10 hv' (i : Int) (by omega) (by omega)]
    by_cases e : V 10 (i : Int) = -1
    · rw [if_pos e]
      exact zero (by unfold xcm; rw [if_neg (fun x => x.1 e)])
    · have hc := xplan w (by omega) (by omega) e
      rw [if_neg e, opensFor_s hk' w.1 hc.1 hc.2 (by omega) (by omega), xB_s]
      by_cases o : xop V (V 10 (i : Int)) i (xgn V i) = true
      · rw [if_neg (by rw [if_pos o]; decide)]
        unfold fCourse_follow_L46 fCourse_follow_L65
        rw [if_neg (show ¬ (1 : Int) = 0 by decide), xA_p (by omega), if_neg (show ¬ (1 : Int) = 0 by decide), xA_p (by omega), xw32_id (by omega) (by omega)]
        exact fin _ _ (by unfold xcm; rw [if_pos ⟨e, o⟩]) (by rw [xgn, if_pos ⟨e, o⟩]; rfl)
      · rw [if_pos (by rw [if_neg o])]
        exact zero (by unfold xcm; rw [if_neg (fun x => o x.2)])
theorem follow_s {V M : xM} {k p kk : Int} (hv : xPv M p V) (hk : xKO M kk V) (w : xWE V) (d1 : k + 2 < p ∨ p + 10 < k + 1) (d2 : k + 2 < kk ∨ kk + 5 < k + 1) : xP (fCourse_follow k p kk M) (fun m => xF (k + 1) (k + 2) M m ∧ xCs m k V) := by
  have hH := w.1.2.1
  exact follow_L hv hk w d1 d2 (V 0 1).toNat 20001 0 M (by omega) (by omega) (xF_rfl _ _ _) (fun h hh => absurd hh (by omega))
theorem settle_s {V M : xM} (hv : xPv M 16 V) (w : xWE V) : xP (fD_settle 1 M) (fun m => (∀ a : Int, (a < 39 ∨ 146 < a) → (a < 257 ∨ 258 < a) → m a = M a) ∧ xLook m 38 V ∧ xCs m 256 V) := by
  unfold fD_settle
  refine xP_B (explore_s (x := 38) (p := 16) hv w.1 (by decide)) ?_
  rintro m1 ⟨f1, l1⟩
  refine xP_B (follow_s (k := 256) (p := 16) (kk := 39) (xPv_go hv (fun a _ _ => f1 a (by omega))) l1.1 w (by omega) (by omega)) ?_
  rintro m2 ⟨f2, c2⟩
  exact xP_some ⟨fun a h1 h2 => by rw [f2 a (by omega), f1 a (by omega)], xLook_go w.1 l1 (fun a a0 a1 _ => f2 a (by omega)), c2⟩
end
