/-! the reference: who can be out -/
noncomputable section
def xRw (m : xM) (q h : Int) (P : Int → Prop) : Prop := ∀ s : Int, 0 ≤ s → s < 512 → (m (q + 17) (512 * h + s) ≠ 0 ↔ P s)
theorem xRw_iff {m : xM} {q h : Int} {P Q : Int → Prop} (k : xRw m q h P) (e : ∀ s : Int, 0 ≤ s → s < 512 → (P s ↔ Q s)) : xRw m q h Q := fun s a b => (k s a b).trans (e s a b)
theorem xRw_go {M m : xM} {q h : Int} {P : Int → Prop} (k : xRw M q h P) (e : ∀ s : Int, 0 ≤ s → s < 512 → m (q + 17) (512 * h + s) = M (q + 17) (512 * h + s)) : xRw m q h P := fun s a b => by rw [e s a b]; exact k s a b
theorem xEf_17 {M m V : xM} {q : Int} (E : xEf M q V) (f : xF (q + 17) (q + 17) M m) : xEf m q V := xEf_go E (fun j _ _ => by rw [f q (by omega)]) (f _ (by omega)) (f _ (by omega)) (f _ (by omega)) (f _ (by omega)) (f _ (by omega))
theorem reach_L93 {V M : xM} {q s z : Int} {h : Nat} (E : xEf M q V) (D : xWd M q V (fun _ => false)) (w : xWF V) (h1 : (h : Int) < V 0 1) (hs : xcan V h s) {Z : Int → Prop} {K : Int → Int → Int → Int → xM → Option xM} {Q : xM → Prop} {m0 : xM}
    (hK : ∀ m : xM, xF (q + 17) (q + 17) M m → (∀ i : Int, (i < 512 * ((h : Int) + 1) ∨ 512 * ((h : Int) + 1) + 512 ≤ i) → m (q + 17) i = m0 (q + 17) i) → xRw m q ((h : Int) + 1) (fun t => Z t ∨ ∃ c : Int, 0 ≤ c ∧ c < V 0 0 ∧ xop V c h s = true ∧ t = xad s c) → xP (K q z h (s + 1) m) Q) : ∀ (n g j : Nat) (m : xM), n < g → (j : Int) + n = V 0 0 → xF (q + 17) (q + 17) M m → (∀ i : Int, (i < 512 * ((h : Int) + 1) ∨ 512 * ((h : Int) + 1) + 512 ≤ i) → m (q + 17) i = m0 (q + 17) i) → xRw m q ((h : Int) + 1) (fun t => Z t ∨ ∃ c : Int, 0 ≤ c ∧ c < j ∧ xop V c h s = true ∧ t = xad s c) → xP (fQ_reaches_L93 K g q z h s (j : Int) m) Q
  | _, 0, _, _, hg, _, _, _, _ => absurd hg (Nat.not_lt_zero _)
  | 0, g + 1, j, m, _, hj, hF, ho, hR => by
    have hs9 := xcan_9 w hs
    unfold fQ_reaches_L93
    rw [hF (q + 7) (by omega), E.1.1, if_neg (by omega), xw32_id (by omega) (by omega)]
    refine hK m hF ho ?_
    rw [show (j : Int) = V 0 0 by omega] at hR
    exact hR
  | n + 1, g + 1, j, m, hg, hj, hF, ho, hR => by
    have hN := w.1
    have hH := w.2.1
    have hs9 := xcan_9 w hs
    have Em : xEf m q V := xEf_17 E hF
    have Dm : xWd m q V (fun _ => false) := xWd_go D (hF _ (by omega))
    unfold fQ_reaches_L93
    rw [hF (q + 7) (by omega), E.1.1, if_pos (by omega), opens_s Em Dm w (by omega) (by omega) (by omega) h1, xB_s, xw32_id (x := (j : Int) + 1) (by omega) (by omega), xw32_id (x := (h : Int) + 1) (by omega) (by omega)]
    by_cases a : xop V j h s = true
    · have hx : 0 ≤ xad s j ∧ xad s j < 512 := xad_rg (n := 9) hs9.1 hs9.2 (by omega) (by omega) (by decide)
      unfold xad at hx
      rw [if_neg (by rw [if_pos a]; decide), xw32_id (x := 512 * ((h : Int) + 1)) (by omega) (by omega), xw32_id (x := 512 * ((h : Int) + 1) + _) (by omega) (by omega), xA_p (by omega), xbit_1]
      refine reach_L93 E D w h1 hs hK n g (j + 1) _ (by omega) (by omega) (xwr_F hF (by omega) (by omega)) (fun i hi => by rw [xwr_n _ (by omega)]; exact ho i hi) (fun t t0 t1 => ?_)
      rw [xwr_at]
      by_cases e : t = xor32 s (xshl 1 (j : Int))
      · rw [if_pos ⟨rfl, by rw [e]⟩]
        constructor
        · intro _
          exact Or.inr ⟨j, by omega, by omega, a, e⟩
        · intro _
          decide
      · rw [if_neg (by omega), hR t t0 t1]
        constructor
        · rintro (x | ⟨c, c0, c1, x⟩)
          · exact Or.inl x
          · exact Or.inr ⟨c, c0, by omega, x⟩
        · rintro (x | ⟨c, c0, c1, x1, x2⟩)
          · exact Or.inl x
          · by_cases ec : c = j
            · rw [ec] at x2; exact absurd x2 e
            · exact Or.inr ⟨c, c0, by omega, x1, x2⟩
    · rw [if_pos (by rw [if_neg a])]
      refine reach_L93 E D w h1 hs hK n g (j + 1) m (by omega) (by omega) hF ho (xRw_iff hR (fun t t0 t1 => ?_))
      constructor
      · rintro (x | ⟨c, c0, c1, x⟩)
        · exact Or.inl x
        · exact Or.inr ⟨c, c0, by omega, x⟩
      · rintro (x | ⟨c, c0, c1, x1, x2⟩)
        · exact Or.inl x
        · by_cases ec : c = j
          · rw [ec] at x1; exact absurd x1 a
          · exact Or.inr ⟨c, c0, by omega, x1, x2⟩
def xnx (V : xM) (h : Nat) (i t : Int) : Prop := ∃ s : Int, 0 ≤ s ∧ s < i ∧ xcan V h s ∧ (t = s ∨ ∃ c : Int, 0 ≤ c ∧ c < V 0 0 ∧ xop V c h s = true ∧ t = xad s c)
theorem xnx_all {V : xM} (w : xWF V) (h : Nat) (t : Int) : xnx V h (2 ^ (V 0 0).toNat) t ↔ xcan V (h + 1) t := by
  constructor
  · rintro ⟨s, s0, s1, hs, rfl | ⟨c, c0, c1, c2, rfl⟩⟩
    · exact Or.inl hs
    · exact Or.inr ⟨c, s, c0, c1, hs, c2, rfl⟩
  · rintro (e | ⟨c, s, c0, c1, hs, c2, rfl⟩)
    · have := xcan_rg w h t e
      exact ⟨t, this.1, this.2, e, Or.inl rfl⟩
    · have := xcan_rg w h s hs
      exact ⟨s, this.1, this.2, hs, Or.inr ⟨c, c0, c1, c2, rfl⟩⟩
theorem reach_L52 {V M : xM} {q z : Int} {h : Nat} (E : xEf M q V) (D : xWd M q V (fun _ => false)) (w : xWF V) (hz : z = 2 ^ (V 0 0).toNat) (h1 : (h : Int) < V 0 1) {K : Int → Int → Int → xM → Option xM} {Q : xM → Prop} {m0 : xM} (h0 : xRw m0 q h (xcan V h))
    (hK : ∀ m : xM, xF (q + 17) (q + 17) M m → (∀ i : Int, (i < 512 * ((h : Int) + 1) ∨ 512 * ((h : Int) + 1) + 512 ≤ i) → m (q + 17) i = m0 (q + 17) i) → xRw m q ((h : Int) + 1) (xcan V (h + 1)) → xP (K q z (h + 1) m) Q) : ∀ (n g i : Nat) (m : xM), n < g → (i : Int) + n = z → xF (q + 17) (q + 17) M m → (∀ i : Int, (i < 512 * ((h : Int) + 1) ∨ 512 * ((h : Int) + 1) + 512 ≤ i) → m (q + 17) i = m0 (q + 17) i) → xRw m q ((h : Int) + 1) (xnx V h i) → xP (fQ_reaches_L52 K g q z h (i : Int) m) Q
  | _, 0, _, _, hg, _, _, _, _ => absurd hg (Nat.not_lt_zero _)
  | 0, g + 1, i, m, _, hi, hF, ho, hR => by
    have hH := w.2.1
    unfold fQ_reaches_L52
    rw [if_neg (by omega), xw32_id (by omega) (by omega)]
    refine hK m hF ho (xRw_iff hR (fun t _ _ => ?_))
    rw [show (i : Int) = z by omega, hz]
    exact xnx_all w h t
  | n + 1, g + 1, i, m, hg, hi, hF, ho, hR => by
    have hN := w.1
    have hH := w.2.1
    have hp := xpw2 (V 0 0).toNat (by omega)
    have ci : m (q + 17) (512 * (h : Int) + i) ≠ 0 ↔ xcan V h i := by rw [ho _ (by omega)]; exact h0 i (by omega) (by omega)
    unfold fQ_reaches_L52
    rw [if_pos (by omega), xw32_id (x := 512 * (h : Int)) (by omega) (by omega), xw32_id (x := 512 * (h : Int) + i) (by omega) (by omega), xA_p (by omega), xw32_id (x := (h : Int) + 1) (by omega) (by omega), xw32_id (x := 512 * ((h : Int) + 1)) (by omega) (by omega), xw32_id (x := 512 * ((h : Int) + 1) + i) (by omega) (by omega)]
    by_cases e : m (q + 17) (512 * (h : Int) + i) = 0
    · rw [if_pos e, xw32_id (by omega) (by omega)]
      refine reach_L52 E D w hz h1 h0 hK n g (i + 1) m (by omega) (by omega) hF ho (xRw_iff hR (fun t _ _ => ?_))
      constructor
      · rintro ⟨s, s0, s1, x⟩
        exact ⟨s, s0, by omega, x⟩
      · rintro ⟨s, s0, s1, x1, x2⟩
        by_cases es : s = i
        · rw [es] at x1; exact absurd e (ci.mpr x1)
        · exact ⟨s, s0, by omega, x1, x2⟩
    · have hc := ci.mp e
      rw [if_neg e, xA_p (by omega), xbit_1]
      refine reach_L93 (Z := fun t => xnx V h i t ∨ t = i) (m0 := m0) E D w h1 hc (fun m' f' o' r' => ?_) (V 0 0).toNat 20001 0 _ (by omega) (by omega) (xwr_F hF (by omega) (by omega)) (fun j hj => by rw [xwr_n _ (by omega)]; exact ho j hj) (fun t t0 t1 => ?_)
      · refine reach_L52 E D w hz h1 h0 hK n g (i + 1) m' (by omega) (by omega) f' o' (xRw_iff r' (fun t _ _ => ?_))
        constructor
        · rintro ((⟨s, s0, s1, x⟩ | x) | ⟨c, x⟩)
          · exact ⟨s, s0, by omega, x⟩
          · exact ⟨i, by omega, by omega, hc, Or.inl x⟩
          · exact ⟨i, by omega, by omega, hc, Or.inr ⟨c, x⟩⟩
        · rintro ⟨s, s0, s1, x1, x2⟩
          by_cases es : s = i
          · rw [es] at x2
            rcases x2 with x2 | x2
            · exact Or.inl (Or.inr x2)
            · exact Or.inr x2
          · exact Or.inl (Or.inl ⟨s, s0, by omega, x1, x2⟩)
      · rw [xwr_at]
        by_cases et : t = i
        · rw [if_pos ⟨rfl, by rw [et]⟩]
          exact ⟨fun _ => Or.inl (Or.inr et), fun _ => by decide⟩
        · rw [if_neg (by omega), hR t t0 t1]
          constructor
          · exact fun x => Or.inl (Or.inl x)
          · rintro ((x | x) | ⟨c, c0, c1, x⟩)
            · exact x
            · exact absurd x et
            · exact absurd c1 (by omega)
theorem reach_L40 {V M : xM} {q z : Int} (E : xEf M q V) (D : xWd M q V (fun _ => false)) (w : xWF V) (hz : z = 2 ^ (V 0 0).toNat) : ∀ (n g i : Nat) (m : xM), n < g → (i : Int) + n = V 0 1 → xF (q + 17) (q + 17) M m → (∀ h : Nat, h ≤ i → xRw m q h (xcan V h)) → (∀ j : Int, 512 * ((i : Int) + 1) ≤ j → j < 12800 → m (q + 17) j = 0) → xP (fQ_reaches_L40 g q z (i : Int) m) (fun m' => xF (q + 17) (q + 17) M m' ∧ ∀ h : Nat, (h : Int) ≤ V 0 1 → xRw m' q h (xcan V h))
  | _, 0, _, _, hg, _, _, _, _ => absurd hg (Nat.not_lt_zero _)
  | 0, g + 1, i, m, _, hi, hF, hR, h0 => by
    unfold fQ_reaches_L40
    rw [hF (q + 7) (by omega), E.1.2.1, if_neg (by omega)]
    exact xP_some ⟨hF, fun h hh => hR h (by omega)⟩
  | n + 1, g + 1, i, m, hg, hi, hF, hR, h0 => by
    have hN := w.1
    have hH := w.2.1
    have hp := xpw2 (V 0 0).toNat (by omega)
    have hp1 : (1 : Int) ≤ 2 ^ (V 0 0).toNat := Int.pow_pos (by decide)
    unfold fQ_reaches_L40
    rw [hF (q + 7) (by omega), E.1.2.1, if_pos (by omega)]
    refine reach_L52 (m0 := m) E D w hz (by omega) (hR i (Nat.le_refl _)) (fun m' f' o' r' => ?_) z.toNat 20001 0 m (by omega) (by omega) hF (fun _ _ => rfl) (fun t t0 t1 => ?_)
    · refine reach_L40 E D w hz n g (i + 1) m' (by omega) (by omega) f' (fun h hh => ?_) (fun j j0 j1 => by rw [o' j (by omega)]; exact h0 j (by omega) j1)
      by_cases e : h = i + 1
      · subst e; exact r'
      · exact xRw_go (hR h (by omega)) (fun s s0 s1 => o' _ (by omega))
    · rw [h0 _ (by omega) (by omega)]
      constructor
      · intro x; exact absurd rfl x
      · rintro ⟨s, s0, s1, -⟩; exact absurd s1 (by omega)
theorem reach_L2 {V M : xM} {q : Int} (E : xEf M q V) (D : xWd M q V (fun _ => false)) (w : xWF V) : ∀ (n g i : Nat) (m : xM), n < g → i + n = 12800 → xF (q + 17) (q + 17) M m → (∀ j : Int, 0 ≤ j → j < i → m (q + 17) j = 0) → xP (fQ_reaches_L2 g q (i : Int) m) (fun m' => xF (q + 17) (q + 17) M m' ∧ ∀ h : Nat, (h : Int) ≤ V 0 1 → xRw m' q h (xcan V h))
  | _, 0, _, _, hg, _, _, _ => absurd hg (Nat.not_lt_zero _)
  | 0, g + 1, i, m, _, hi, hF, h0 => by
    have hN := w.1
    have hH := w.2.1
    have f1 : xF (q + 17) (q + 17) M (xwr m (q + 17) 0 (xbit 1)) := xwr_F hF (by omega) (by omega)
    unfold fQ_reaches_L2
    rw [if_neg (by omega), f1 (q + 7) (by omega), E.1.1, (xshl1_pw hN.1 (by omega)).1]
    refine reach_L40 E D w rfl (V 0 1).toNat 20001 0 _ (by omega) (by omega) f1 (fun h hh => ?_) (fun j j0 j1 => by rw [xwr_n _ (by omega)]; exact h0 j (by omega) (by omega))
    have e : h = 0 := by omega
    subst e
    intro s s0 s1
    rw [xwr_at, xbit_1]
    show _ ↔ s = 0
    by_cases es : s = 0
    · rw [if_pos ⟨rfl, by omega⟩]
      exact ⟨fun _ => es, fun _ => by decide⟩
    · rw [if_neg (by omega), h0 _ (by omega) (by omega)]
      exact ⟨fun x => absurd rfl x, fun x => absurd x es⟩
  | n + 1, g + 1, i, m, hg, hi, hF, h0 => by
    unfold fQ_reaches_L2
    rw [if_pos (by omega), xA_p (by omega), xw32_id (by omega) (by omega), xbit_0]
    refine reach_L2 E D w n g (i + 1) _ (by omega) (by omega) (xwr_F hF (by omega) (by omega)) (fun j j0 j1 => ?_)
    rw [xwr_at]
    by_cases e : j = i
    · rw [if_pos ⟨rfl, e⟩]
    · rw [if_neg (by omega)]; exact h0 j j0 (by omega)
theorem reaches_s {V M : xM} {q : Int} (E : xEf M q V) (D : xWd M q V (fun _ => false)) (w : xWF V) : xP (fQ_reaches q M) (fun m => xF (q + 17) (q + 17) M m ∧ ∀ h : Nat, (h : Int) ≤ V 0 1 → xRw m q h (xcan V h)) :=
  reach_L2 E D w 12800 20001 0 M (by omega) rfl (xF_rfl _ _ _) (fun j j0 j1 => absurd j1 (by omega))
theorem ahead_L {V m : xM} {q : Int} {h : Nat} (w : xWF V) (e7 : m (q + 7) 0 = V 0 0) (hh : (h : Int) ≤ V 0 1) (hR : xRw m q h (xcan V h)) : ∀ (n g i : Nat) (a : Int), n < g → (i : Int) + n = 2 ^ (V 0 0).toNat → ((0 : Int) < i → xMx (fun s => s < i ∧ xcan V h s) a) → ((i : Int) = 0 → a = 0) → xP (fQ_mostAhead_L4 g q h a (i : Int) m) (fun v => xMx (xcan V h) v)
  | _, 0, _, _, hg, _, _, _ => absurd hg (Nat.not_lt_zero _)
  | 0, g + 1, i, a, _, hi, ha, _ => by
    have hN := w.1
    have hp1 : (1 : Int) ≤ 2 ^ (V 0 0).toNat := Int.pow_pos (by decide)
    unfold fQ_mostAhead_L4
    rw [e7, (xshl1_pw hN.1 (by omega)).1, if_neg (by omega)]
    refine xP_some (xMx_iff (ha (by omega)) (fun s _ _ => ⟨fun x => x.2, fun x => ⟨?_, x⟩⟩))
    have := xcan_rg w h s x
    omega
  | n + 1, g + 1, i, a, hg, hi, ha, ha0 => by
    have hN := w.1
    have hH := w.2.1
    have hp := xpw2 (V 0 0).toNat (by omega)
    have ar : 0 ≤ a ∧ a ≤ 32 := by
      by_cases e : (i : Int) = 0
      · rw [ha0 e]; decide
      · have x := ha (by omega)
        have := xMx_rg x
        have := x.1 0 (by decide) (by decide) ⟨by omega, xcan_0 V h⟩
        rw [xpc_0] at this
        omega
    have ci := hR i (by omega) (by omega)
    unfold fQ_mostAhead_L4
    rw [e7, (xshl1_pw hN.1 (by omega)).1, if_pos (by omega), xw32_id (x := 512 * (h : Int)) (by omega) (by omega), xw32_id (x := 512 * (h : Int) + i) (by omega) (by omega), xA_p (by omega), xw32_id (x := (i : Int) + 1) (by omega) (by omega)]
    by_cases e : m (q + 17) (512 * (h : Int) + i) = 0
    · rw [if_pos e]
      have hno : ¬ xcan V h i := fun x => absurd e (ci.mpr x)
      have hi0 : (i : Int) ≠ 0 := fun x => hno (by rw [x]; exact xcan_0 V h)
      refine ahead_L w e7 hh hR n g (i + 1) a (by omega) (by omega) (fun _ => xMx_iff (ha (by omega)) (fun s _ _ => ⟨fun x => ⟨by omega, x.2⟩, fun x => ⟨?_, x.2⟩⟩)) (fun x => by omega)
      by_cases es : s = i
      · rw [es] at x; exact absurd x.2 hno
      · omega
    · have hc := ci.mp e
      have pr := xpc_rg (i : Int)
      rw [if_neg e, sizeOf_s m (by omega) (by omega), xB_s, xB_s]
      have fin : ∀ a' : Int, (a < xpc i → a' = xpc i) → (¬ a < xpc i → a' = a) → xMx (fun s => s < ((i + 1 : Nat) : Int) ∧ xcan V h s) a' := by
        intro a' q1 q2
        by_cases e0 : (i : Int) = 0
        · have z := ha0 e0
          have p0 : xpc (i : Int) = 0 := by rw [e0]; exact xpc_0
          have : a' = 0 := by rw [q2 (by omega), z]
          refine ⟨fun s s0 s1 x => ?_, Or.inr ⟨0, by decide, by decide, ⟨by omega, xcan_0 V h⟩, by rw [xpc_0]; exact this⟩⟩
          have es : s = 0 := by omega
          rw [es, xpc_0]; omega
        · have x := ha (by omega)
          by_cases c : a < xpc i
          · rw [q1 c]
            refine ⟨fun s s0 s1 y => ?_, Or.inr ⟨i, by omega, by omega, ⟨by omega, hc⟩, rfl⟩⟩
            by_cases es : s = i
            · rw [es]; omega
            · have := x.1 s s0 s1 ⟨by omega, y.2⟩; omega
          · rw [q2 c]
            refine ⟨fun s s0 s1 y => ?_, ?_⟩
            · by_cases es : s = i
              · rw [es]; omega
              · exact x.1 s s0 s1 ⟨by omega, y.2⟩
            · rcases x.2 with ⟨y, -⟩ | ⟨s, s0, s1, y, z⟩
              · omega
              · exact Or.inr ⟨s, s0, s1, ⟨by omega, y.2⟩, z⟩
      by_cases c : a < xpc i
      · rw [if_pos c]
        exact ahead_L w e7 hh hR n g (i + 1) _ (by omega) (by omega) (fun _ => fin _ (fun _ => rfl) (fun x => absurd c x)) (fun x => by omega)
      · rw [if_neg c]
        exact ahead_L w e7 hh hR n g (i + 1) _ (by omega) (by omega) (fun _ => fin _ (fun x => absurd x c) (fun _ => rfl)) (fun x => by omega)
theorem ahead_s {V m : xM} {q : Int} {h : Nat} (w : xWF V) (e7 : m (q + 7) 0 = V 0 0) (hh : (h : Int) ≤ V 0 1) (hR : xRw m q h (xcan V h)) : xP (fQ_mostAhead q h m) (fun v => xMx (xcan V h) v) := by
  have hN := w.1
  have hp := xpw2 (V 0 0).toNat (by omega)
  have hp1 : (1 : Int) ≤ 2 ^ (V 0 0).toNat := Int.pow_pos (by decide)
  exact ahead_L w e7 hh hR ((2 : Int) ^ (V 0 0).toNat).toNat 20001 0 0 (by omega) (by omega) (fun x => absurd x (by omega)) (fun _ => rfl)
/-- what the reference leaves alone: all but its tables of who would turn and who can be out -/
def xFq (q : Int) (M m : xM) : Prop := ∀ a : Int, a ≠ q + 14 → a ≠ q + 17 → m a = M a
theorem qmost_s {V M : xM} {q : Int} (E : xEf M q V) (w : xWF V) (hz : M q 29 = 0) : xP (fQ_mostNow q M) (fun r => xMx (xcan V (V 0 1).toNat) r.1 ∧ xFq q M r.2 ∧ xEf r.2 q V ∧ xWd r.2 q V (fun _ => false) ∧ ∀ h : Nat, (h : Int) ≤ V 0 1 → xRw r.2 q h (xcan V h)) := by
  have hH := w.2.1
  unfold fQ_mostNow
  refine xP_B (would_s E w) ?_
  rintro m1 ⟨f1, E1, D1⟩
  have D1 : xWd m1 q V (fun _ => false) := fun h s c a b d e f => by rw [D1 h s c a b d e f]; show (_ && !xbt (M q 29) c) = _; rw [hz, xbt_0]
  refine xP_B (reaches_s E1 D1 w) ?_
  rintro m2 ⟨f2, R2⟩
  have E2 := xEf_17 E1 f2
  have e : m2 (q + 7) 1 = (((V 0 1).toNat : Nat) : Int) := by rw [E2.1.2.1]; omega
  rw [e]
  refine xP_B (ahead_s w E2.1.1 (by omega) (R2 _ (by omega))) ?_
  intro v hv
  exact xP_some ⟨hv, fun a a0 a1 => (by show m2 a = M a; rw [f2 a (by omega), f1 a (by omega)]), E2, xWd_go D1 (f2 _ (by omega)), R2⟩
end
