/-! calls, first batch: what men would do, and what comes of the plan -/
noncomputable section
theorem opn {M : xM} (S : Sim M) : ∃ V : xM, xPv M (1 + 15) V ∧ xWE V ∧ xQ0 M 310 0 V ∧ xKp M (xwr M 310 0 0) ∧ xQ0 (xwr M 310 0 0) 310 0 V ∧ (2 ≤ V 0 0 → xLook M (1 + 37) V ∧ xCs M (1 + 255) V) := by
  have k : xKp M (xwr M 310 0 0) := xKp_w (xKp_rfl M) (by decide) (by decide) (by decide)
  exact ⟨xVw M 16, xPv_V M 16, S.2.2.1.1, S.2.2.1.2, k, xQ0_kp S.2.2.1.2 k, S.2.2.2.2.2⟩
theorem if10 {c : Prop} [Decidable c] : ((if c then (1 : Int) else 0) = 0) = ¬ c := by
  by_cases h : c
  · rw [if_pos h]; simp [h]
  · rw [if_neg h]; simp [h]
theorem W2 {V : xM} (w : xWE V) {c : Int} (h0 : 0 ≤ c) (h1 : c < V 0 0) : 2 ≤ V 0 0 := by
  have := w.2.1
  omega
theorem W2h {V : xM} (w : xWE V) {h : Int} (h0 : 0 ≤ h) (h1 : h < V 0 1) : 2 ≤ V 0 0 := by
  have a := w.2.1
  have b := w.2.2.2.1
  omega
theorem W2p {V : xM} (w : xWE V) (h1 : 0 < V 0 0) : 2 ≤ V 0 0 := by
  have := w.2.1
  omega
theorem call_5 {M : xM} (S : Sim M) (c s : Int) : xC1 (some (fD_beside 1 c s M)) (fQ_beside 310 c s M) M := by
  obtain ⟨V, hv, W, Q, K, Q0, L⟩ := opn S
  unfold fD_beside fQ_beside
  rw [hasCell_s, isSide_s, qCell_s Q0 W, qSide_s, xPv_0 hv 0 (by decide) (by decide)]
  simp only [if10]
  by_cases h : 0 ≤ c ∧ c < V 0 0
  · by_cases h2 : s = 0 ∨ s = 1
    · have E := xEf_pl (xQ0_kp Q0 (plainly_kp _)) W (W2 W h.1 h.2) (plainly_s 310 _).1
      rw [if_neg (not_not_intro h), if_neg (not_not_intro h2), if_neg (not_not_intro h), if_neg (not_not_intro h2), nb_s hv W.1 h.1 h.2, beside_s (w := 0) (N := V 0 0) (R := V 0 3) Q0.1.1.2.1 Q0.2 W.1.2.2.1 W.1.1.2 (by decide) (by decide) h.1 h.2 h2, xB_s]
      exact xC1_eq rfl rfl K
    · rw [if_neg (not_not_intro h), if_pos h2, if_neg (not_not_intro h), if_pos h2]
      exact xC1_eq rfl rfl K
  · rw [if_pos h, if_pos h]
    exact xC1_eq rfl rfl K
theorem call_6 {M : xM} (S : Sim M) (c s h : Int) : xC1 (fD_likes 1 c s h M) (fQ_likes 310 c s h M) M := by
  obtain ⟨V, hv, W, Q, K, Q0, L⟩ := opn S
  have K1 := xKp_tr K (plainly_kp (xwr M 310 0 0))
  have Q1 := xQ0_kp Q0 (plainly_kp (xwr M 310 0 0))
  have P1 := (plainly_s 310 (xwr M 310 0 0)).1
  unfold fD_likes fQ_likes
  generalize fQ_plainly 310 (xwr M 310 0 0) = m at K1 Q1 P1 ⊢
  rw [hasCell_s, isSide_s, hasHour_s, qCell_s Q1 W, qSide_s, qHour_s Q1 W, xPv_0 hv 0 (by decide) (by decide), xPv_0 hv 1 (by decide) (by decide)]
  simp only [if10]
  by_cases h1 : 0 ≤ c ∧ c < V 0 0
  · by_cases h2 : s = 0 ∨ s = 1
    · by_cases h3 : 0 ≤ h ∧ h < V 0 1
      · have hN := W.1.1
        rw [if_neg (not_not_intro h1), if_neg (not_not_intro h2), if_neg (not_not_intro h3), if_neg (not_not_intro h1), if_neg (not_not_intro h2), if_neg (not_not_intro h3), nb_s hv W.1 h1.1 h1.2, likesOf_s (xEf_pl Q1 W (W2 W h1.1 h1.2) P1) W.1 h1.1 h1.2 h2 h3.1 h3.2, xB_s]
        unfold xnv
        by_cases e : xnb (V 0 0) (V 0 3) c s = -1
        · rw [if_pos e, if_pos e]
          exact xC1_eq rfl rfl K1
        · rw [if_neg e, if_neg e, xw32_id (x := 2 * c) (by omega) (by omega), xw32_id (by omega) (by omega), liking_s h hv W.1 (by omega) (by omega), xB_s]
          exact xC1_eq rfl rfl K1
      · rw [if_neg (not_not_intro h1), if_neg (not_not_intro h2), if_pos h3, if_neg (not_not_intro h1), if_neg (not_not_intro h2), if_pos h3]
        exact xC1_eq rfl rfl K1
    · rw [if_neg (not_not_intro h1), if_pos h2, if_neg (not_not_intro h1), if_pos h2]
      exact xC1_eq rfl rfl K1
  · rw [if_pos h1, if_pos h1]
    exact xC1_eq rfl rfl K1
theorem call_7 {M : xM} (S : Sim M) (c s h : Int) : xC1 (fD_reason 1 c s h M) (fQ_reason 310 c s h M) M := by
  obtain ⟨V, hv, W, Q, K, Q0, L⟩ := opn S
  have K1 := xKp_tr K (plainly_kp (xwr M 310 0 0))
  have Q1 := xQ0_kp Q0 (plainly_kp (xwr M 310 0 0))
  have P1 := (plainly_s 310 (xwr M 310 0 0)).1
  unfold fD_reason fQ_reason
  generalize fQ_plainly 310 (xwr M 310 0 0) = m at K1 Q1 P1 ⊢
  rw [hasCell_s, isSide_s, hasHour_s, qCell_s Q1 W, qSide_s, qHour_s Q1 W, xPv_0 hv 0 (by decide) (by decide), xPv_0 hv 1 (by decide) (by decide)]
  simp only [if10]
  by_cases h1 : 0 ≤ c ∧ c < V 0 0
  · by_cases h2 : s = 0 ∨ s = 1
    · by_cases h3 : 0 ≤ h ∧ h < V 0 1
      · have hH := W.1.2.1
        rw [if_neg (not_not_intro h1), if_neg (not_not_intro h2), if_neg (not_not_intro h3), if_neg (not_not_intro h1), if_neg (not_not_intro h2), if_neg (not_not_intro h3), why_s hv W.1 h1.1 h1.2 h2 h3.1 (by omega), xB_s, reason_s (xEf_pl Q1 W (W2 W h1.1 h1.2) P1) W.1 h1.1 h1.2 h2 h3.1 h3.2, xB_s]
        exact xC1_eq rfl rfl K1
      · rw [if_neg (not_not_intro h1), if_neg (not_not_intro h2), if_pos h3, if_neg (not_not_intro h1), if_neg (not_not_intro h2), if_pos h3]
        exact xC1_eq rfl rfl K1
    · rw [if_neg (not_not_intro h1), if_pos h2, if_neg (not_not_intro h1), if_pos h2]
      exact xC1_eq rfl rfl K1
  · rw [if_pos h1, if_pos h1]
    exact xC1_eq rfl rfl K1
/-- bits that are as p says, below n -/
def xBs (n : Int) (p : Int → Bool) (r : Int) : Prop := x32 r ∧ ∀ h : Int, 0 ≤ h → h < 32 → xbt r h = (decide (h < n) && p h)
theorem xBs_one {n : Int} {p : Int → Bool} {r s : Int} (a : xBs n p r) (b : xBs n p s) : r = s :=
  xbt_ext a.1 b.1 (fun c c0 c1 => by rw [a.2 c c0 c1, b.2 c c0 c1])
theorem xBs_0 {p : Int → Bool} : xBs 0 p 0 := ⟨by constructor <;> decide, fun h h0 h1 => by rw [xbt_0]; simp; omega⟩
theorem xBs_s {i : Nat} {p : Int → Bool} {r : Int} (a : xBs i p r) (hi : (i : Int) < 32) : (p i = true → xBs ((i : Int) + 1) p (xor32 r (xshl 1 (i : Int)))) ∧ (p i = false → xBs ((i : Int) + 1) p r) := by
  have key : ∀ h : Int, h ≠ i → decide (h < (i : Int) + 1) = decide (h < (i : Int)) := fun h e => by apply decide_eq_decide.mpr; omega
  refine ⟨fun e => ⟨xor_in _ _, fun h h0 h1 => ?_⟩, fun e => ⟨a.1, fun h h0 h1 => ?_⟩⟩
  · rw [xbt_or, xbt_shl1 (by omega) hi h0 h1, a.2 h h0 h1]
    by_cases eh : h = i
    · rw [eh, e]; simp; omega
    · rw [key h eh]; simp [eh]
  · rw [a.2 h h0 h1]
    by_cases eh : h = i
    · rw [eh, e]; simp
    · rw [key h eh]
theorem hours_L {V m : xM} {c s : Int} (E : xEf m 310 V) (w : xWF V) (c0 : 0 ≤ c) (c1 : c < V 0 0) (hs : s = 0 ∨ s = 1) : ∀ (n g i : Nat) (r : Int), n < g → (i : Int) + n = V 0 1 → xBs i (fun h => xT V c s h) r → xP (fQ_hours_L34 g 310 c s r (i : Int) m) (fun x => xBs (V 0 1) (fun h => xT V c s h) x.1 ∧ x.2 = m)
  | _, 0, _, _, hg, _, _ => absurd hg (Nat.not_lt_zero _)
  | 0, g + 1, i, r, _, hi, hr => by
    unfold fQ_hours_L34
    rw [E.1.2.1, if_neg (by omega)]
    rw [show (i : Int) = V 0 1 by omega] at hr
    exact xP_some ⟨hr, rfl⟩
  | n + 1, g + 1, i, r, hg, hi, hr => by
    have hH := w.2.1
    have st := xBs_s hr (by omega)
    unfold fQ_hours_L34
    rw [E.1.2.1, if_pos (by omega), reason_s E w c0 c1 hs (by omega) (by omega), xB_s, xw32_id (x := (i : Int) + 1) (by omega) (by omega), xor_0r hr.1]
    by_cases e : xwo V c s i = 0
    · rw [if_pos e]
      exact hours_L E w c0 c1 hs n g (i + 1) _ (by omega) (by omega) (st.1 (decide_eq_true e))
    · rw [if_neg e]
      exact hours_L E w c0 c1 hs n g (i + 1) _ (by omega) (by omega) (st.2 (decide_eq_false e))
theorem call_8 {M : xM} (S : Sim M) (c s : Int) : xC1 (fD_hours 1 c s M) (fQ_hours 310 c s M) M := by
  obtain ⟨V, hv, W, Q, K, Q0, L⟩ := opn S
  have K1 := xKp_tr K (plainly_kp (xwr M 310 0 0))
  have Q1 := xQ0_kp Q0 (plainly_kp (xwr M 310 0 0))
  have P1 := (plainly_s 310 (xwr M 310 0 0)).1
  unfold fD_hours fQ_hours
  generalize fQ_plainly 310 (xwr M 310 0 0) = m at K1 Q1 P1 ⊢
  rw [hasCell_s, isSide_s, qCell_s Q0 W, qSide_s, xPv_0 hv 0 (by decide) (by decide)]
  simp only [if10]
  by_cases h1 : 0 ≤ c ∧ c < V 0 0
  · by_cases h2 : s = 0 ∨ s = 1
    · have hN := W.1.1
      have hH := W.1.2.1
      have T := (L (W2 W h1.1 h1.2)).1.1.2.2.1 c s h1.1 h1.2 h2
      rw [if_neg (not_not_intro h1), if_neg (not_not_intro h2), if_neg (not_not_intro h1), if_neg (not_not_intro h2), xw32_id (x := 2 * c) (by omega) (by omega), xw32_id (by omega) (by omega), xA_p (by omega)]
      refine xC1_of (A := xBs (V 0 1) (fun h => xT V c s h)) (xP_some T) (xP_mono (hours_L (xEf_pl Q1 W (W2 W h1.1 h1.2) P1) W.1 h1.1 h1.2 h2 (V 0 1).toNat 20001 0 0 (by omega) (by omega) xBs_0) ?_) (fun r s a b => xBs_one a b)
      rintro x ⟨a, b⟩
      exact ⟨a, by rw [b]; exact K1⟩
    · rw [if_neg (not_not_intro h1), if_pos h2, if_neg (not_not_intro h1), if_pos h2]
      exact xC1_eq rfl rfl K
  · rw [if_pos h1, if_pos h1]
    exact xC1_eq rfl rfl K
theorem xop_0 (V : xM) (c h : Int) : xop V c h 0 = xOk V c h := by
  apply Bool.eq_iff_iff.mpr
  rw [xop_iff]
  constructor
  · exact fun x => x.1
  · exact fun x => ⟨x, fun d _ _ e => by rw [xbt_0] at e; cases e⟩
theorem could_L {V m : xM} {c : Int} (E : xEf m 310 V) (D : xWd m 310 V (fun _ => false)) (w : xWF V) (c0 : 0 ≤ c) (c1 : c < V 0 0) : ∀ (n g i : Nat) (r : Int), n < g → (i : Int) + n = V 0 1 → xBs i (fun h => xOk V c h) r → xP (fQ_couldOf_L4 g 310 c r (i : Int) m) (fun x => xBs (V 0 1) (fun h => xOk V c h) x)
  | _, 0, _, _, hg, _, _ => absurd hg (Nat.not_lt_zero _)
  | 0, g + 1, i, r, _, hi, hr => by
    unfold fQ_couldOf_L4
    rw [E.1.2.1, if_neg (by omega)]
    rw [show (i : Int) = V 0 1 by omega] at hr
    exact xP_some hr
  | n + 1, g + 1, i, r, hg, hi, hr => by
    have hH := w.2.1
    have st := xBs_s hr (by omega)
    unfold fQ_couldOf_L4
    rw [E.1.2.1, if_pos (by omega), opens_s E D w c0 c1 (by omega) (by omega), xB_s, xw32_id (x := (i : Int) + 1) (by omega) (by omega), xor_0r hr.1, xop_0]
    by_cases e : xOk V c i = true
    · rw [if_neg (by rw [if_pos e]; decide)]
      exact could_L E D w c0 c1 n g (i + 1) _ (by omega) (by omega) (st.1 e)
    · rw [if_pos (by rw [if_neg e])]
      exact could_L E D w c0 c1 n g (i + 1) _ (by omega) (by omega) (st.2 (by simpa using e))
theorem couldOf_s {V m : xM} {c : Int} (E : xEf m 310 V) (D : xWd m 310 V (fun _ => false)) (w : xWF V) (c0 : 0 ≤ c) (c1 : c < V 0 0) : xP (fQ_couldOf 310 c m) (fun x => xBs (V 0 1) (fun h => xOk V c h) x) := by
  have hH := w.2.1
  exact could_L E D w c0 c1 (V 0 1).toNat 20001 0 0 (by omega) (by omega) xBs_0
theorem open_s {m V : xM} {k c : Int} (hk : xKO m k V) (c0 : 0 ≤ c) (c1 : c < V 0 0) : xBs (V 0 1) (fun h => xOk V c h) (m (k + 2) c) := ⟨(hk.2.2.2 c c0 c1).1.1, (hk.2.2.2 c c0 c1).2.1⟩
theorem call_9 {M : xM} (S : Sim M) (c : Int) : xC1 (fD_could 1 c M) (fQ_could 310 c M) M := by
  obtain ⟨V, hv, W, Q, K, Q0, L⟩ := opn S
  unfold fD_could fQ_could
  rw [hasCell_s, qCell_s Q0 W, xPv_0 hv 0 (by decide) (by decide)]
  simp only [if10]
  by_cases h1 : 0 ≤ c ∧ c < V 0 0
  · have hN := W.1.1
    rw [if_neg (not_not_intro h1), if_neg (not_not_intro h1), xA_p (by omega)]
    refine xC1_of (A := xBs (V 0 1) (fun h => xOk V c h)) (xP_some (open_s (L (W2 W h1.1 h1.2)).1.1 h1.1 h1.2)) ?_ (fun r s a b => xBs_one a b)
    refine xP_B (lays_s Q0 W (W2 W h1.1 h1.2)) ?_
    rintro m ⟨k, E, D, P⟩
    refine xP_B (couldOf_s E D W.1 h1.1 h1.2) (fun v hv => ?_)
    exact xP_some ⟨hv, xKp_tr K k⟩
  · rw [if_pos h1, if_pos h1]
    exact xC1_eq rfl rfl K
/-- the longest run -/
def xlo (p : Nat → Bool) : Nat → Nat → Int → Int → Int → Int × Int
  | 0, _, _, most, first => (most, first)
  | k + 1, i, run, most, first => if most < (if p i = true then run + 1 else 0) then xlo p k (i + 1) (if p i = true then run + 1 else 0) (if p i = true then run + 1 else 0) ((i : Int) - (if p i = true then run + 1 else 0) + 1) else xlo p k (i + 1) (if p i = true then run + 1 else 0) most first
theorem longD_L {V M : xM} {c what : Int} {p : Nat → Bool} (hH : M (1 + 15) 1 = V 0 1) (h24 : V 0 1 ≤ 24) (c0 : 0 ≤ c) (c1 : c < 9) (hp : ∀ h : Nat, (h : Int) < V 0 1 → xbt (M (1 + 37 + 1 + 2) c) h = p h) : ∀ (n g i : Nat) (run most first : Int), n < g → (i : Int) + n = V 0 1 → 0 ≤ run → run ≤ i → fD_longest_L34 g 1 c what run most first (i : Int) M = some (if what = 0 then (xlo p n i run most first).1 else (xlo p n i run most first).2)
  | _, 0, _, _, _, _, hg, _, _, _ => absurd hg (Nat.not_lt_zero _)
  | 0, g + 1, i, run, most, first, _, hi, _, _ => by
    unfold fD_longest_L34 xlo
    rw [hH, if_neg (by omega)]
  | n + 1, g + 1, i, run, most, first, hg, hi, r0, r1 => by
    rw [fD_longest_L34, xlo]
    rw [hH, if_pos (by omega), xA_p ⟨c0, c1⟩, fD_bit_s _ M (by omega) (by omega), hp i (by omega)]
    unfold fD_longest_L74
    cases e : p i
    · rw [if_neg (by decide)]
      simp only [Bool.false_eq_true, if_false]
      rw [xw32_id (x := (i : Int) + 1) (by omega) (by omega), xw32_id (x := (i : Int) - 0) (by omega) (by omega), xw32_id (x := (i : Int) - 0 + 1) (by omega) (by omega)]
      by_cases l : most < 0
      · rw [if_pos l, if_pos l]
        exact longD_L hH h24 c0 c1 hp n g (i + 1) _ _ _ (by omega) (by omega) (by omega) (by omega)
      · rw [if_neg l, if_neg l]
        exact longD_L hH h24 c0 c1 hp n g (i + 1) _ _ _ (by omega) (by omega) (by omega) (by omega)
    · rw [if_pos (by rfl)]
      simp only [if_true]
      rw [xw32_id (x := run + 1) (by omega) (by omega), xw32_id (x := (i : Int) + 1) (by omega) (by omega), xw32_id (x := (i : Int) - (run + 1)) (by omega) (by omega), xw32_id (x := (i : Int) - (run + 1) + 1) (by omega) (by omega)]
      by_cases l : most < run + 1
      · rw [if_pos l, if_pos l]
        exact longD_L hH h24 c0 c1 hp n g (i + 1) _ _ _ (by omega) (by omega) (by omega) (by omega)
      · rw [if_neg l, if_neg l]
        exact longD_L hH h24 c0 c1 hp n g (i + 1) _ _ _ (by omega) (by omega) (by omega) (by omega)
theorem longQ_L {V m : xM} {v what : Int} {p : Nat → Bool} (hH : m (310 + 7) 1 = V 0 1) (h24 : V 0 1 ≤ 24) (hp : ∀ h : Nat, (h : Int) < V 0 1 → xbt v h = p h) : ∀ (n g i : Nat) (run most first : Int), n < g → (i : Int) + n = V 0 1 → 0 ≤ run → run ≤ i → fQ_longest_L49 g 310 what v most first run (i : Int) m = some (if what = 0 then (xlo p n i run most first).1 else (xlo p n i run most first).2, m)
  | _, 0, _, _, _, _, hg, _, _, _ => absurd hg (Nat.not_lt_zero _)
  | 0, g + 1, i, run, most, first, _, hi, _, _ => by
    unfold fQ_longest_L49 xlo
    rw [hH, if_neg (by omega)]
  | n + 1, g + 1, i, run, most, first, hg, hi, r0, r1 => by
    rw [fQ_longest_L49, xlo]
    rw [hH, if_pos (by omega), fQ_isBit_s _ m (by omega) (by omega), hp i (by omega)]
    unfold fQ_longest_L77
    cases e : p i
    · rw [if_pos (by rfl)]
      simp only [Bool.false_eq_true, if_false]
      rw [xw32_id (x := (i : Int) + 1) (by omega) (by omega), xw32_id (x := (i : Int) - 0) (by omega) (by omega), xw32_id (x := (i : Int) - 0 + 1) (by omega) (by omega)]
      by_cases l : most < 0
      · rw [if_pos l, if_pos l]
        exact longQ_L hH h24 hp n g (i + 1) _ _ _ (by omega) (by omega) (by omega) (by omega)
      · rw [if_neg l, if_neg l]
        exact longQ_L hH h24 hp n g (i + 1) _ _ _ (by omega) (by omega) (by omega) (by omega)
    · rw [if_neg (by decide)]
      simp only [if_true]
      rw [xw32_id (x := run + 1) (by omega) (by omega), xw32_id (x := (i : Int) + 1) (by omega) (by omega), xw32_id (x := (i : Int) - (run + 1)) (by omega) (by omega), xw32_id (x := (i : Int) - (run + 1) + 1) (by omega) (by omega)]
      by_cases l : most < run + 1
      · rw [if_pos l, if_pos l]
        exact longQ_L hH h24 hp n g (i + 1) _ _ _ (by omega) (by omega) (by omega) (by omega)
      · rw [if_neg l, if_neg l]
        exact longQ_L hH h24 hp n g (i + 1) _ _ _ (by omega) (by omega) (by omega) (by omega)
theorem xC1_Q {d : Option Int} {q : Option (Int × xM)} {M : xM} {r : Int} (hd : d = some r) (hq : xP q (fun x => x.1 = r ∧ xKp M x.2)) : xC1 d q M := by
  obtain ⟨⟨s, m⟩, e, a, k⟩ := hq
  have a : s = r := a
  subst a
  exact ⟨s, m, hd, e, k⟩
theorem call_10 {M : xM} (S : Sim M) (c what : Int) : xC1 (fD_longest 1 c what M) (fQ_longest 310 c what M) M := by
  obtain ⟨V, hv, W, Q, K, Q0, L⟩ := opn S
  have hN := W.1.1
  have hH := W.1.2.1
  unfold fD_longest fQ_longest
  rw [hasCell_s, qCell_s Q0 W, xPv_0 hv 0 (by decide) (by decide), fQ_in_s]
  simp only [if10]
  by_cases h1 : 0 ≤ c ∧ c < V 0 0
  · rw [if_neg (not_not_intro h1), if_neg (not_not_intro h1)]
    by_cases h2 : 0 ≤ what ∧ what ≤ 1
    · have B := open_s (L (W2 W h1.1 h1.2)).1.1 h1.1 h1.2
      rw [if_neg (by omega), if_neg (by omega), if_neg (not_not_intro h2)]
      refine xC1_Q (longD_L (V := V) (p := fun h => xOk V c h) (xPv_0 hv 1 (by decide) (by decide)) hH.2 h1.1 (by omega) (fun h hh => by rw [B.2 h (by omega) (by omega), decide_eq_true hh, Bool.true_and]) (V 0 1).toNat 20001 0 0 0 (-1) (by omega) (by omega) (by decide) (by decide)) ?_
      refine xP_B (lays_s Q0 W (W2 W h1.1 h1.2)) ?_
      rintro m ⟨k, E, D, P⟩
      refine xP_B (couldOf_s E D W.1 h1.1 h1.2) (fun v hb => ?_)
      exact xP_of (longQ_L (V := V) (p := fun h => xOk V c h) E.1.2.1 hH.2 (fun h hh => by rw [hb.2 h (by omega) (by omega), decide_eq_true hh, Bool.true_and]) (V 0 1).toNat 20001 0 0 0 (-1) (by omega) (by omega) (by decide) (by decide)) ⟨rfl, xKp_tr K k⟩
    · rw [if_pos h2]
      by_cases h3 : what < 0
      · rw [if_pos h3]; exact xC1_eq rfl rfl K
      · rw [if_neg h3, if_pos (by omega)]; exact xC1_eq rfl rfl K
  · rw [if_pos h1, if_pos h1]
    exact xC1_eq rfl rfl K
theorem xBs_pos {n : Int} {p : Int → Bool} {r : Int} (h : xBs n p r) (hn : n ≤ 24) : 0 ≤ r ∧ r < 16777216 :=
  xbt_lo (n := 24) h.1 (by decide) (fun d d0 d1 => by rw [h.2 d (by omega) d1, decide_eq_false (by omega)]; rfl)
theorem call_11 {M : xM} (S : Sim M) (c o : Int) : xC1 (fD_common 1 c o M) (fQ_common 310 c o M) M := by
  obtain ⟨V, hv, W, Q, K, Q0, L⟩ := opn S
  have hN := W.1.1
  have hH := W.1.2.1
  unfold fD_common fQ_common
  rw [hasCell_s, hasCell_s, qCell_s Q0 W, qCell_s Q0 W, xPv_0 hv 0 (by decide) (by decide)]
  simp only [if10]
  by_cases h1 : 0 ≤ c ∧ c < V 0 0
  · rw [if_neg (not_not_intro h1), if_neg (not_not_intro h1)]
    by_cases h2 : 0 ≤ o ∧ o < V 0 0
    · rw [if_neg (not_not_intro h2), if_neg (not_not_intro h2)]
      by_cases h3 : c = o
      · rw [if_pos h3, if_pos h3]; exact xC1_eq rfl rfl K
      · have hk := (L (W2 W h1.1 h1.2)).1.1
        have Bc := open_s hk h1.1 h1.2
        have Bo := open_s hk h2.1 h2.2
        have both : ∀ a b : Int, xBs (V 0 1) (fun h => xOk V c h) a → xBs (V 0 1) (fun h => xOk V o h) b → xBs (V 0 1) (fun h => xOk V c h && xOk V o h) (xand a b) := fun a b x y => ⟨xand_in _ _, fun h h0 h1 => by
          rw [xbt_and, x.2 h h0 h1, y.2 h h0 h1]
          cases decide (h < V 0 1) <;> simp⟩
        rw [if_neg h3, if_neg h3, xA_p (by omega), xA_p (by omega)]
        have B := both _ _ Bc Bo
        have r := xBs_pos B hH.2
        refine xC1_Q (r := xpc (xand (M (1 + 37 + 1 + 2) c) (M (1 + 37 + 1 + 2) o))) (by rw [JI_bc (by omega)]) ?_
        refine xP_B (lays_s Q0 W (W2 W h1.1 h1.2)) ?_
        rintro m ⟨k, E, D, P⟩
        refine xP_B (couldOf_s E D W.1 h1.1 h1.2) (fun v hb => ?_)
        refine xP_B (couldOf_s E D W.1 h2.1 h2.2) (fun u hc => ?_)
        rw [xBs_one hb Bc, xBs_one hc Bo, sizeOf_s m (by omega) (by omega), xB_s]
        exact xP_some ⟨rfl, xKp_tr K k⟩
    · rw [if_pos h2, if_pos h2]; exact xC1_eq rfl rfl K
  · rw [if_pos h1, if_pos h1]
    exact xC1_eq rfl rfl K
end
