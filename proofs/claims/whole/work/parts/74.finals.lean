/-! what still can come of each set: the reference's side, and the two together -/
noncomputable section
def xfo (f : Int → Int) (V : xM) (h s : Int) : Nat → Int
  | 0 => f s
  | i + 1 => if xop V (i : Int) h s = true ∧ xfo f V h s i < f (xad s (i : Int)) then f (xad s (i : Int)) else xfo f V h s i
def xfn (V : xM) : Nat → Int → Int
  | 0, s => xpc s
  | k + 1, s => xfo (xfn V k) V (V 0 1 - ((k : Int) + 1)) s (V 0 0).toNat
def xTb (m : xM) (q : Int) (V : xM) (k : Nat) : Prop := ∀ s : Int, 0 ≤ s → s < 2 ^ (V 0 0).toNat → m (q + 18) (512 * (V 0 1 - (k : Int)) + s) = xfn V k s
theorem fin_L82 {V M : xM} {q h s : Int} {k : Nat} (E : xEf M q V) (D : xWd M q V (fun _ => false)) (w : xWF V) (hh : h = V 0 1 - ((k : Int) + 1)) (h0 : 0 ≤ h) (s0 : 0 ≤ s) (s1 : s < 2 ^ (V 0 0).toNat) (T : xTb M q V k) {K : Int → Int → Int → Int → xM → Option xM} (z : Int) : ∀ (n g i : Nat), n < g → (i : Int) + n = V 0 0 → fQ_laysFinals_L82 K g q z h s (xfo (xfn V k) V h s i) (i : Int) M = K q z h (s + 1) (xwr M (q + 18) (512 * h + s) (xfo (xfn V k) V h s (V 0 0).toNat))
  | _, 0, _, hg, _ => absurd hg (Nat.not_lt_zero _)
  | 0, g + 1, i, _, hi => by
    have hN := w.1
    have hH := w.2.1
    have pw := pw_9 hN.1 hN.2
    rw [fQ_laysFinals_L82, E.1.1, if_neg (by omega), xw32_id (x := 512 * h) (by omega) (by omega), xw32_id (x := 512 * h + s) (by omega) (by omega), xA_p (by omega), xw32_id (x := s + 1) (by omega) (by omega), show (V 0 0).toNat = i by omega]
  | n + 1, g + 1, i, hg, hi => by
    have hN := w.1
    have hH := w.2.1
    have pw := pw_9 hN.1 hN.2
    have ar : 0 ≤ xad s (i : Int) ∧ xad s (i : Int) < 2 ^ (V 0 0).toNat := xad_rg s0 s1 (by omega) (by omega) (by omega)
    have t := T (xad s (i : Int)) ar.1 ar.2
    rw [show V 0 1 - (k : Int) = h + 1 by omega] at t
    have st : xfo (xfn V k) V h s (i + 1) = if xop V (i : Int) h s = true ∧ xfo (xfn V k) V h s i < xfn V k (xad s (i : Int)) then xfn V k (xad s (i : Int)) else xfo (xfn V k) V h s i := rfl
    rw [fQ_laysFinals_L82, E.1.1, if_pos (by omega), opens_s E D w (by omega) (by omega) h0 (by omega), xB_s, xw32_id (x := (i : Int) + 1) (by omega) (by omega), xw32_id (x := h + 1) (by omega) (by omega), xw32_id (x := 512 * (h + 1)) (by omega) (by omega), show xor32 s (xshl 1 (i : Int)) = xad s (i : Int) from rfl, xw32_id (x := 512 * (h + 1) + xad s (i : Int)) (by omega) (by omega), xA_p (by omega), t]
    have IH := fin_L82 E D w hh h0 s0 s1 T z n g (i + 1) (by omega) (by omega) (K := K)
    by_cases o : xop V (i : Int) h s = true
    · rw [if_neg (by rw [if_pos o]; decide)]
      by_cases b : xfo (xfn V k) V h s i < xfn V k (xad s (i : Int))
      · rw [if_pos b]
        rw [st, if_pos ⟨o, b⟩] at IH
        exact IH
      · rw [if_neg b]
        rw [st, if_neg (fun x => b x.2)] at IH
        exact IH
    · rw [if_pos (by rw [if_neg o])]
      rw [st, if_neg (fun x => o x.1)] at IH
      exact IH
theorem fin_L56 {V M : xM} {q h : Int} {k : Nat} (E : xEf M q V) (D : xWd M q V (fun _ => false)) (w : xWF V) (hh : h = V 0 1 - ((k : Int) + 1)) (h0 : 0 ≤ h) (T : ∀ j : Nat, j ≤ k → xTb M q V j) {K : Int → Int → Int → xM → Option xM} {Q : xM → Prop} (hK : ∀ m : xM, xF (q + 18) (q + 18) M m → (∀ j : Nat, j ≤ k + 1 → xTb m q V j) → xP (K q (2 ^ (V 0 0).toNat) (h - 1) m) Q) : ∀ (n g i : Nat) (m : xM), n < g → (i : Int) + n = 2 ^ (V 0 0).toNat → xF (q + 18) (q + 18) M m → (∀ j : Nat, j ≤ k → xTb m q V j) → (∀ s : Int, 0 ≤ s → s < i → m (q + 18) (512 * h + s) = xfn V (k + 1) s) → xP (fQ_laysFinals_L56 K g q (2 ^ (V 0 0).toNat) h (i : Int) m) Q
  | _, 0, _, _, hg, _, _, _, _ => absurd hg (Nat.not_lt_zero _)
  | 0, g + 1, i, m, _, hi, hF, hT, hs => by
    have hN := w.1
    have hH := w.2.1
    unfold fQ_laysFinals_L56
    rw [if_neg (by omega), xw32_id (by omega) (by omega)]
    refine hK m hF (fun j hj => ?_)
    by_cases e : j = k + 1
    · subst e
      intro s s0 s1
      rw [show V 0 1 - ((k + 1 : Nat) : Int) = h by omega]
      exact hs s s0 (by omega)
    · exact hT j (by omega)
  | n + 1, g + 1, i, m, hg, hi, hF, hT, hs => by
    have hN := w.1
    have hH := w.2.1
    have pw := pw_9 hN.1 hN.2
    have Em : xEf m q V := xEf_go E (fun j _ _ => by rw [hF q (by omega)]) (hF _ (by omega)) (hF _ (by omega)) (hF _ (by omega)) (hF _ (by omega)) (hF _ (by omega))
    have Dm : xWd m q V (fun _ => false) := xWd_go D (hF _ (by omega))
    have t := hT k (Nat.le_refl _) (i : Int) (by omega) (by omega)
    rw [show V 0 1 - (k : Int) = h + 1 by omega] at t
    rw [fQ_laysFinals_L56, if_pos (by omega), xw32_id (x := h + 1) (by omega) (by omega), xw32_id (x := 512 * (h + 1)) (by omega) (by omega), xw32_id (x := 512 * (h + 1) + (i : Int)) (by omega) (by omega), xA_p (by omega), t]
    have e := fin_L82 (k := k) (s := (i : Int)) (K := fQ_laysFinals_L56 K g) Em Dm w hh h0 (by omega) (by omega) (hT k (Nat.le_refl _)) (2 ^ (V 0 0).toNat) (V 0 0).toNat 20001 0 (by omega) (by omega)
    have e : fQ_laysFinals_L82 (fQ_laysFinals_L56 K g) 20001 q (2 ^ (V 0 0).toNat) h (i : Int) (xfn V k (i : Int)) 0 m = _ := e
    rw [e]
    refine fin_L56 E D w hh h0 T hK n g (i + 1) _ (by omega) (by omega) (xwr_F hF (by omega) (by omega)) (fun j hj s s0 s1 => ?_) (fun s s0 s1 => ?_)
    · rw [xwr_n _ (by omega)]
      exact hT j hj s s0 s1
    · rw [xwr_at]
      by_cases x : s = (i : Int)
      · subst x
        rw [if_pos ⟨rfl, rfl⟩, hh]
        rfl
      · rw [if_neg (by omega)]
        exact hs s s0 (by omega)
theorem fin_L49 {V M : xM} {q : Int} (E : xEf M q V) (D : xWd M q V (fun _ => false)) (w : xWF V) : ∀ (n g k : Nat) (m : xM), n < g → (k : Int) + n = V 0 1 → xF (q + 18) (q + 18) M m → (∀ j : Nat, j ≤ k → xTb m q V j) → xP (fQ_laysFinals_L49 g q (2 ^ (V 0 0).toNat) (V 0 1 - 1 - k) m) (fun m' => xF (q + 18) (q + 18) M m' ∧ ∀ j : Nat, (j : Int) ≤ V 0 1 → xTb m' q V j)
  | _, 0, _, _, hg, _, _, _ => absurd hg (Nat.not_lt_zero _)
  | 0, g + 1, k, m, _, hi, hF, hT => by
    unfold fQ_laysFinals_L49
    rw [if_pos (by omega)]
    exact xP_some ⟨hF, fun j hj => hT j (by omega)⟩
  | n + 1, g + 1, k, m, hg, hi, hF, hT => by
    have hN := w.1
    have hH := w.2.1
    have pw := pw_9 hN.1 hN.2
    have Em : xEf m q V := xEf_go E (fun j _ _ => by rw [hF q (by omega)]) (hF _ (by omega)) (hF _ (by omega)) (hF _ (by omega)) (hF _ (by omega)) (hF _ (by omega))
    have Dm : xWd m q V (fun _ => false) := xWd_go D (hF _ (by omega))
    unfold fQ_laysFinals_L49
    rw [if_neg (by omega)]
    refine fin_L56 (k := k) (M := m) Em Dm w (by omega) (by omega) hT (fun m' hF' hT' => ?_) ((2 : Int) ^ (V 0 0).toNat).toNat 20001 0 m (by omega) (by omega) (xF_rfl _ _ _) hT (fun s s0 s1 => absurd s1 (by omega))
    have := fin_L49 E D w n g (k + 1) m' (by omega) (by omega) (xF_tr hF hF') hT'
    rwa [show V 0 1 - 1 - ((k + 1 : Nat) : Int) = V 0 1 - 1 - (k : Int) - 1 by omega] at this
theorem fin_L18 {V M : xM} {q : Int} (E : xEf M q V) (D : xWd M q V (fun _ => false)) (w : xWF V) : ∀ (n g i : Nat) (m : xM), n < g → (i : Int) + n = 2 ^ (V 0 0).toNat → xF (q + 18) (q + 18) M m → (∀ s : Int, 0 ≤ s → s < i → m (q + 18) (512 * V 0 1 + s) = xpc s) → xP (fQ_laysFinals_L18 g q (2 ^ (V 0 0).toNat) (V 0 1) (i : Int) m) (fun m' => xF (q + 18) (q + 18) M m' ∧ ∀ j : Nat, (j : Int) ≤ V 0 1 → xTb m' q V j)
  | _, 0, _, _, hg, _, _, _ => absurd hg (Nat.not_lt_zero _)
  | 0, g + 1, i, m, _, hi, hF, hs => by
    have hH := w.2.1
    unfold fQ_laysFinals_L18
    rw [if_neg (by omega), xw32_id (x := V 0 1 - 1) (by omega) (by omega)]
    have := fin_L49 (M := M) E D w (V 0 1).toNat 20001 0 m (by omega) (by omega) hF (fun j hj s s0 s1 => ?_)
    · rwa [show V 0 1 - 1 - ((0 : Nat) : Int) = V 0 1 - 1 by omega] at this
    · have e : j = 0 := by omega
      subst e
      rw [show V 0 1 - ((0 : Nat) : Int) = V 0 1 by omega]
      exact hs s s0 (by omega)
  | n + 1, g + 1, i, m, hg, hi, hF, hs => by
    have hN := w.1
    have hH := w.2.1
    have pw := pw_9 hN.1 hN.2
    unfold fQ_laysFinals_L18
    rw [if_pos (by omega), sizeOf_s m (by omega) (by omega), xB_s, xw32_id (x := 512 * V 0 1) (by omega) (by omega), xw32_id (x := 512 * V 0 1 + (i : Int)) (by omega) (by omega), xA_p (by omega), xw32_id (x := (i : Int) + 1) (by omega) (by omega)]
    refine fin_L18 E D w n g (i + 1) _ (by omega) (by omega) (xwr_F hF (by omega) (by omega)) (fun s s0 s1 => ?_)
    rw [xwr_at]
    by_cases x : s = (i : Int)
    · subst x
      rw [if_pos ⟨rfl, rfl⟩]
    · rw [if_neg (by omega)]
      exact hs s s0 (by omega)
theorem fin_s {V M : xM} {q : Int} (E : xEf M q V) (D : xWd M q V (fun _ => false)) (w : xWF V) : xP (fQ_laysFinals q M) (fun m => xF (q + 18) (q + 18) M m ∧ ∀ j : Nat, (j : Int) ≤ V 0 1 → xTb m q V j) := by
  have hN := w.1
  have pw := pw_9 hN.1 hN.2
  unfold fQ_laysFinals
  rw [E.1.1, E.1.2.1, (xshl1_pw hN.1 (by omega)).1]
  exact fin_L18 E D w ((2 : Int) ^ (V 0 0).toNat).toNat 20001 0 M (by omega) (by omega) (xF_rfl _ _ _) (fun s s0 s1 => absurd s1 (by omega))
/-! the two together -/
theorem xfo_ge (f : Int → Int) (V : xM) (h s : Int) : ∀ n : Nat, f s ≤ xfo f V h s n ∧ ∀ c : Nat, c < n → xop V (c : Int) h s = true → f (xad s (c : Int)) ≤ xfo f V h s n
  | 0 => ⟨Int.le_refl _, fun c hc => absurd hc (Nat.not_lt_zero _)⟩
  | n + 1 => by
    obtain ⟨a, b⟩ := xfo_ge f V h s n
    unfold xfo
    by_cases x : xop V (n : Int) h s = true ∧ xfo f V h s n < f (xad s (n : Int))
    · rw [if_pos x]
      refine ⟨by omega, fun c hc o => ?_⟩
      by_cases e : c = n
      · subst e; exact Int.le_refl _
      · have := b c (by omega) o
        omega
    · rw [if_neg x]
      refine ⟨a, fun c hc o => ?_⟩
      by_cases e : c = n
      · subst e
        exact Int.not_lt.mp (fun y => x ⟨o, y⟩)
      · exact b c (by omega) o
theorem xfo_at (f : Int → Int) (V : xM) (h s : Int) : ∀ n : Nat, xfo f V h s n = f s ∨ ∃ c : Nat, c < n ∧ xop V (c : Int) h s = true ∧ xfo f V h s n = f (xad s (c : Int))
  | 0 => Or.inl rfl
  | n + 1 => by
    unfold xfo
    by_cases x : xop V (n : Int) h s = true ∧ xfo f V h s n < f (xad s (n : Int))
    · rw [if_pos x]
      exact Or.inr ⟨n, by omega, x.1, rfl⟩
    · rw [if_neg x]
      rcases xfo_at f V h s n with a | ⟨c, c0, c1, c2⟩
      · exact Or.inl a
      · exact Or.inr ⟨c, by omega, c1, c2⟩
theorem xPw_le {V : xM} {t : Int} (w : xWF V) : ∀ (k : Nat) (s : Int), xPw V t k s → t ≤ xfn V k s
  | 0, s, h => by have := h.2; unfold xfn; omega
  | k + 1, s, h => by
    obtain ⟨a, b⟩ := xfo_ge (xfn V k) V (V 0 1 - ((k : Int) + 1)) s (V 0 0).toNat
    unfold xfn
    rcases h.2 with q | ⟨c, c0, c1, o, q⟩
    · have := xPw_le w k s q
      omega
    · have := xPw_le w k _ q
      obtain ⟨n, rfl⟩ := Int.eq_ofNat_of_zero_le c0
      have := b n (by omega) o
      omega
theorem xPw_fn {V : xM} (w : xWF V) : ∀ (k : Nat) (s : Int), 0 ≤ s → s < 2 ^ (V 0 0).toNat → xPw V (xfn V k s) k s
  | 0, s, s0, s1 => ⟨⟨s0, s1⟩, rfl⟩
  | k + 1, s, s0, s1 => by
    have hN := w.1
    refine ⟨⟨s0, s1⟩, ?_⟩
    unfold xfn
    rcases xfo_at (xfn V k) V (V 0 1 - ((k : Int) + 1)) s (V 0 0).toNat with a | ⟨c, c0, c1, c2⟩
    · rw [a]; exact Or.inl (xPw_fn w k s s0 s1)
    · have ar : 0 ≤ xad s (c : Int) ∧ xad s (c : Int) < 2 ^ (V 0 0).toNat := xad_rg s0 s1 (by omega) (by omega) (by omega)
      rw [c2]; exact Or.inr ⟨(c : Int), by omega, by omega, c1, xPw_fn w k _ ar.1 ar.2⟩
theorem xPw_top {V : xM} {t : Int} (w : xWF V) : ∀ (k h : Nat) (s : Int), (h : Int) + k = V 0 1 → xcan V h s → xPw V t k s → t ≤ xmm V
  | 0, h, s, hh, hc, hp => by
    have := (xmm_sp V).1 s (xcan_9 w hc).1 (xcan_9 w hc).2 (by rw [show (V 0 1).toNat = h by omega]; exact hc)
    have := hp.2
    omega
  | k + 1, h, s, hh, hc, hp => by
    rcases hp.2 with q | ⟨c, c0, c1, o, q⟩
    · exact xPw_top w k (h + 1) s (by omega) (Or.inl hc) q
    · refine xPw_top w k (h + 1) _ (by omega) (Or.inr ⟨c, s, c0, c1, hc, ?_, rfl⟩) q
      rw [show (h : Int) = V 0 1 - ((k : Int) + 1) by omega]
      exact o
theorem xPw_0 {V : xM} {t : Int} (w : xWF V) : ∀ (h k : Nat) (s : Int), (h : Int) + k = V 0 1 → xcan V h s → xPw V t k s → xPw V t (V 0 1).toNat 0
  | 0, k, s, hh, hc, hp => by
    have e : s = 0 := hc
    rw [show (V 0 1).toNat = k by omega]
    rw [e] at hp
    exact hp
  | h + 1, k, s, hh, hc, hp => by
    rcases hc with q | ⟨c, s', c0, c1, q, o, rfl⟩
    · exact xPw_0 w h (k + 1) s (by omega) q ⟨xcan_rg w h s q, Or.inl hp⟩
    · refine xPw_0 w h (k + 1) s' (by omega) q ⟨xcan_rg w h s' q, Or.inr ⟨c, c0, c1, ?_, hp⟩⟩
      rw [show V 0 1 - ((k : Int) + 1) = (h : Int) by omega]
      exact o
theorem fin_0 {V : xM} (w : xWF V) : xfn V (V 0 1).toNat 0 = xmm V := by
  have hH := w.2.1
  have hN := w.1
  have pw := pw_9 hN.1 hN.2
  have up := xPw_top w (V 0 1).toNat 0 0 (by omega) (xcan_0 V 0) (xPw_fn w (V 0 1).toNat 0 (by decide) (by omega))
  rcases (xmm_sp V).2 with ⟨-, n⟩ | ⟨s, s0, s1, c, e⟩
  · exact absurd (xcan_0 V _) (n 0 (by decide) (by decide))
  · have := xPw_le w _ _ (xPw_0 (t := xmm V) w (V 0 1).toNat 0 s (by omega) c ⟨xcan_rg w _ s c, e.symm⟩)
    omega
theorem fin_iff {V : xM} (w : xWF V) {h k : Nat} {s : Int} (hh : (h : Int) + k = V 0 1) (hc : xcan V h s) : xfn V k s ≤ xmm V ∧ (xPw V (xmm V) k s ↔ xfn V k s = xmm V) := by
  have r := xcan_rg w h s hc
  have up := xPw_top w k h s hh hc (xPw_fn w k s r.1 r.2)
  refine ⟨up, fun x => ?_, fun x => ?_⟩
  · have := xPw_le w k s x
    omega
  · have := xPw_fn w k s r.1 r.2
    rwa [x] at this
end
