/-! calls, third batch: what any plan can do -/
noncomputable section
theorem xandL_n (x : Int) {c : Nat} (hc : c < 9223372036854775808) : xandL x (c : Int) = (((x % 18446744073709551616).toNat &&& c : Nat) : Int) := by
  rw [xandL_eq]
  have e : (BitVec.ofInt 64 x &&& BitVec.ofInt 64 (c : Int)).toNat = (x % 18446744073709551616).toNat &&& c := by
    rw [BitVec.toNat_and, BitVec.toNat_ofInt, BitVec.toNat_ofInt]
    have h2 : ((c : Int) % ((2 ^ 64 : Nat) : Int)).toNat = c := by omega
    rw [h2]
    rfl
  have hl : (x % 18446744073709551616).toNat &&& c ≤ c := Nat.and_le_right
  rw [BitVec.toInt_eq_toNat_of_lt (by rw [e]; omega), e]
theorem xushrL_n (x : Int) {k : Nat} (h1 : 1 ≤ k) (h2 : k < 64) : xushrL x (k : Int) = (((x % 18446744073709551616).toNat / 2 ^ k : Nat) : Int) := by
  have hp : (2 : Int) ^ k = ((2 ^ k : Nat) : Int) := by rw [Int.natCast_pow]; rfl
  have hn : x % 18446744073709551616 = (((x % 18446744073709551616).toNat : Nat) : Int) := (Int.toNat_of_nonneg (Int.emod_nonneg _ (by decide))).symm
  have hlt : (x % 18446744073709551616).toNat < 18446744073709551616 := by omega
  rw [xushrL_eq, Int.emod_eq_of_lt (a := (k : Int)) (by omega) (by omega), Int.toNat_natCast, hp]
  rw [hn, ← Int.natCast_ediv, Int.toNat_natCast]
  generalize (x % 18446744073709551616).toNat = y at hlt ⊢
  have h3 : y / 2 ^ k ≤ y / 2 ^ 1 := Nat.div_le_div_left (Nat.pow_le_pow_right (by decide) h1) (by decide)
  rw [Nat.pow_one] at h3
  generalize y / 2 ^ k = z at h3 ⊢
  exact xw64_id (by omega) (by omega)
theorem xg128 (G : Nat) : xw32 (G : Int) % 128 = ((G % 128 : Nat) : Int) := by
  rw [xw32_eq]; omega
theorem JL_bc (x : Int) (M : xM) : fJL_bitCount x M = (xct (fun i => xbl x (i : Int)) 64 : Nat) := by
  obtain ⟨n, hn⟩ : ∃ n : Nat, (x % 18446744073709551616).toNat = n := ⟨_, rfl⟩
  have hlt : n < 18446744073709551616 := by omega
  obtain ⟨k1, k2, k3, k4, k5, k6, k7⟩ := bc64 (n := n) hlt rfl rfl rfl rfl rfl rfl rfl
  have eb : xct (fun i => xbl x (i : Int)) 64 = xct (fun i => n.testBit i) 64 := xct_cong (fun k hk => by
    unfold xbl
    show (BitVec.ofInt 64 x).toNat.testBit (k : Int).toNat = _
    rw [BitVec.toNat_ofInt, Int.toNat_natCast, ← hn]; rfl)
  rw [eb, ← k1]
  clear k1 eb
  unfold fJL_bitCount
  have c1 : (6148914691236517205 : Int) = ((6148914691236517205 : Nat) : Int) := rfl
  have c2 : (3689348814741910323 : Int) = ((3689348814741910323 : Nat) : Int) := rfl
  have c3 : (1085102592571150095 : Int) = ((1085102592571150095 : Nat) : Int) := rfl
  have u : ∀ (y : Int) (m : Nat), (y % 18446744073709551616).toNat = m → xushrL y 1 = ((m / 2 ^ 1 : Nat) : Int) ∧ xushrL y 2 = ((m / 2 ^ 2 : Nat) : Int) ∧ xushrL y 4 = ((m / 16 : Nat) : Int) ∧ xushrL y 8 = ((m / 256 : Nat) : Int) ∧ xushrL y 16 = ((m / 65536 : Nat) : Int) ∧ xushrL y 32 = ((m / 4294967296 : Nat) : Int) := fun y m hm => by
    rw [← hm]
    exact ⟨xushrL_n y (k := 1) (by decide) (by decide), xushrL_n y (k := 2) (by decide) (by decide), xushrL_n y (k := 4) (by decide) (by decide), xushrL_n y (k := 8) (by decide) (by decide), xushrL_n y (k := 16) (by decide) (by decide), xushrL_n y (k := 32) (by decide) (by decide)⟩
  have small : ∀ m : Nat, m < 9223372036854775808 → ((m : Int) % 18446744073709551616).toNat = m := fun m h => by omega
  have ad : ∀ a b : Nat, a + b < 9223372036854775808 → xw64 ((a : Int) + (b : Int)) = ((a + b : Nat) : Int) := fun a b h => by rw [xw64_id (by omega) (by omega)]; rfl
  rw [c1, c2, c3, (u x n hn).1, xandL_n ((n / 2 ^ 1 : Nat) : Int) (c := 6148914691236517205) (by decide), small (n / 2 ^ 1) (by omega)]
  generalize ht : (n / 2 ^ 1 &&& 6148914691236517205) = t at k2 k3 k4 k5 k6 k7 ⊢
  have hA : (xw64 (x - (t : Int)) % 18446744073709551616).toNat = n - t := by rw [xw64_eq]; omega
  generalize xw64 (x - (t : Int)) = a at hA ⊢
  generalize hAA : n - t = A at hA k3 k4 k5 k6 k7 ⊢
  simp only [Nat.pow_zero, Nat.div_one] at k3 k4 k5 k6 k7 ⊢
  have m1 : A &&& 3689348814741910323 ≤ 3689348814741910323 := Nat.and_le_right
  have m2 : A / 2 ^ 2 &&& 3689348814741910323 ≤ 3689348814741910323 := Nat.and_le_right
  have aq : A / 2 ^ 2 < 9223372036854775808 := by omega
  rw [(u a A hA).2.1, xandL_n a (c := 3689348814741910323) (by decide), xandL_n ((A / 2 ^ 2 : Nat) : Int) (c := 3689348814741910323) (by decide), hA, small _ aq, ad _ _ (by omega)]
  generalize hBB : (A &&& 3689348814741910323) + (A / 2 ^ 2 &&& 3689348814741910323) = B at k3 k4 k5 k6 k7 ⊢
  have b31 : B < 9223372036854775808 := by omega
  rw [(u _ B (small B b31)).2.2.1, ad _ _ k3, xandL_n ((B + B / 16 : Nat) : Int) (c := 1085102592571150095) (by decide), small _ k3]
  generalize hCC : (B + B / 16 &&& 1085102592571150095) = C at k4 k5 k6 k7 ⊢
  have c31 : C < 9223372036854775808 := by omega
  rw [(u _ C (small C c31)).2.2.2.1, ad _ _ (by omega)]
  generalize hDD : C + C / 256 = D at k5 k6 k7 ⊢
  have d31 : D < 9223372036854775808 := by omega
  rw [(u _ D (small D d31)).2.2.2.2.1, ad _ _ (by omega)]
  generalize hEE : D + D / 65536 = E at k6 k7 ⊢
  have e31 : E < 9223372036854775808 := by omega
  rw [(u _ E (small E e31)).2.2.2.2.2, ad _ _ (by omega)]
  have := xand_mod (xw32 ((E + E / 4294967296 : Nat) : Int)) (n := 7) (by decide)
  rw [show (2 : Int) ^ 7 - 1 = 127 from rfl, show (2 : Int) ^ 7 = 128 from rfl] at this
  rw [this]
  exact xg128 _
def xdc (p : Prop) : Bool := @decide p (Classical.propDecidable p)
theorem xdc_t {p : Prop} : xdc p = true ↔ p := by unfold xdc; exact @decide_eq_true_iff p (Classical.propDecidable p)
theorem xdc_f {p : Prop} : xdc p = false ↔ ¬ p := by
  rw [← Bool.not_eq_true, xdc_t]
theorem rr_at (h : Int) : (1 + 37 + 7) + 2 + 4 * h = rr (1 + 37) h := rfl
theorem most_D {M V : xM} (l : xLook M (1 + 37) V) {h : Nat} (hh : (h : Int) ≤ V 0 1) : xP (fSets_largestWith (rr (1 + 37) h) 0 M) (fun q => xMx (xcan V h) q) := largest_s (l.2 h hh)
theorem call_21 {M : xM} (S : Sim M) (h : Int) : xC1 (fD_most 1 h M) (fQ_most 310 h M) M := by
  obtain ⟨V, hv, W, Q, K, Q0, L⟩ := opn S
  have hH := W.1.2.1
  unfold fD_most fQ_most
  rw [hasHour_s, qHour_s Q0 W, xPv_0 hv 1 (by decide) (by decide)]
  simp only [if10]
  by_cases h1 : 0 ≤ h ∧ h < V 0 1
  · have p2 := W2h W h1.1 h1.2
    obtain ⟨k, rfl⟩ := Int.eq_ofNat_of_zero_le h1.1
    rw [if_neg (not_not_intro h1), if_neg (not_not_intro h1), xw32_id (by omega) (by omega), xA_p (by omega), rr_at]
    refine xC1_of (A := fun r => xMx (xcan V (k + 1)) r) ?_ ?_ (fun r s a b => xMx_one a b)
    · exact xP_B (most_D (L p2).1 (h := k + 1) (by omega)) (fun v hv => xP_some hv)
    · refine xP_B (mostPlain_s Q0 W p2) ?_
      rintro ⟨v, m⟩ ⟨-, k1, E, D, P, R⟩
      exact xP_B (ahead_s W.1 E.1.1 (h := k + 1) (by omega) (R (k + 1) (by omega))) (fun u hu => xP_some ⟨hu, xKp_tr K k1⟩)
  · rw [if_pos h1, if_pos h1]; exact xC1_eq rfl rfl K
theorem soonD_L {M V : xM} {x : Int} (hv1 : M (1 + 15) 1 = V 0 1) (h24 : V 0 1 ≤ 24) (l : xLook M (1 + 37) V) : ∀ (n g i : Nat), n < g → (i : Int) + n = V 0 1 → fD_soonest_L26 g 1 x (i : Int) M = some (xff (fun h => xdc (∀ v, xMx (xcan V (h + 1)) v → x ≤ v)) n i)
  | _, 0, _, hg, _ => absurd hg (Nat.not_lt_zero _)
  | 0, g + 1, i, _, hi => by
    unfold fD_soonest_L26 xff
    rw [hv1, if_neg (by omega)]
  | n + 1, g + 1, i, hg, hi => by
    obtain ⟨v, e, hx⟩ := most_D l (h := i + 1) (by omega)
    rw [fD_soonest_L26, xff]
    rw [hv1, if_pos (by omega), xw32_id (x := (i : Int) + 1) (by omega) (by omega), xA_p (by omega), rr_at, show ((i : Int) + 1) = ((i + 1 : Nat) : Int) from rfl, e, xB_s]
    by_cases c : v < x
    · rw [if_pos c, if_neg (fun y => by have := xdc_t.mp y v hx; omega)]
      exact soonD_L hv1 h24 l n g (i + 1) (by omega) (by omega)
    · rw [if_neg c, if_pos (xdc_t.mpr (fun u hu => by rw [xMx_one hu hx]; omega))]
theorem soonQ_L {m V : xM} {x : Int} (W : xWF V) (E : xEf m 310 V) (R : ∀ h : Nat, (h : Int) ≤ V 0 1 → xRw m 310 h (xcan V h)) : ∀ (n g i : Nat), n < g → (i : Int) + n = V 0 1 → fQ_soonest_L34 g 310 x (i : Int) m = some (xff (fun h => xdc (∀ v, xMx (xcan V (h + 1)) v → x ≤ v)) n i, m)
  | _, 0, _, hg, _ => absurd hg (Nat.not_lt_zero _)
  | 0, g + 1, i, _, hi => by
    unfold fQ_soonest_L34 xff
    rw [E.1.2.1, if_neg (by omega)]
  | n + 1, g + 1, i, hg, hi => by
    have hH := W.2.1
    obtain ⟨v, e, hx⟩ := ahead_s W E.1.1 (h := i + 1) (by omega) (R (i + 1) (by omega))
    rw [fQ_soonest_L34, xff]
    rw [E.1.2.1, if_pos (by omega), xw32_id (x := (i : Int) + 1) (by omega) (by omega), show ((i : Int) + 1) = ((i + 1 : Nat) : Int) from rfl, e, xB_s]
    by_cases c : v < x
    · rw [if_pos c, if_neg (fun y => by have := xdc_t.mp y v hx; omega)]
      exact soonQ_L W E R n g (i + 1) (by omega) (by omega)
    · rw [if_neg c, if_pos (xdc_t.mpr (fun u hu => by rw [xMx_one hu hx]; omega))]
theorem call_23 {M : xM} (S : Sim M) (x : Int) : xC1 (fD_soonest 1 x M) (fQ_soonest 310 x M) M := by
  obtain ⟨V, hv, W, Q, K, Q0, L⟩ := opn S
  have hH := W.1.2.1
  unfold fD_soonest fQ_soonest
  rw [stands_s, qPrison_s Q0 W, xPv_0 hv 0 (by decide) (by decide), fQ_in_s]
  simp only [if10]
  by_cases h1 : 0 < V 0 0
  · have p2 := W2p W h1
    rw [if_neg (not_not_intro h1), if_neg (not_not_intro h1)]
    by_cases h2 : 1 ≤ x ∧ x ≤ 9
    · rw [if_neg (show ¬ x < 1 by omega), if_neg (show ¬ 9 < x by omega), if_neg (not_not_intro h2)]
      refine xC1_Q (soonD_L (V := V) (xPv_0 hv 1 (by decide) (by decide)) hH.2 (L p2).1 (V 0 1).toNat 20001 0 (by omega) (by omega)) ?_
      refine xP_B (mostPlain_s Q0 W p2) ?_
      rintro ⟨v, m⟩ ⟨-, k1, E, D, P, R⟩
      exact xP_of (soonQ_L (V := V) W.1 E R (V 0 1).toNat 20001 0 (by omega) (by omega)) ⟨rfl, xKp_tr K k1⟩
    · rw [if_pos h2]
      by_cases h3 : x < 1
      · rw [if_pos h3]; exact xC1_eq rfl rfl K
      · rw [if_neg h3, if_pos (show 9 < x by omega)]; exact xC1_eq rfl rfl K
  · rw [if_pos h1, if_pos h1]; exact xC1_eq rfl rfl K
theorem xsbs_and {t s : Int} : xand t (xxor s (-1)) = 0 ↔ xsbs t s := by
  rw [xand_0]
  constructor
  · intro h d d0 d1 ht
    cases hs : xbt s d
    · exact absurd ⟨ht, by rw [xbt_not _ d0 d1, hs]; rfl⟩ (h d d0 d1)
    · rfl
  · rintro h d d0 d1 ⟨a, b⟩
    rw [xbt_not _ d0 d1, h d d0 d1 a] at b
    cases b
theorem holds_L {V m : xM} {t : Int} {h : Nat} (w : xWF V) (e7 : m (310 + 7) 0 = V 0 0) (hh : (h : Int) ≤ V 0 1) (hR : xRw m 310 h (xcan V h)) : ∀ (n g i : Nat), n < g → (i : Int) + n = 2 ^ (V 0 0).toNat → xP (fQ_holds_L2 g 310 h t (i : Int) m) (fun v => (v = 1 ∧ ∃ s : Int, i ≤ s ∧ xcan V h s ∧ xsbs t s) ∨ (v = 0 ∧ ¬ ∃ s : Int, i ≤ s ∧ xcan V h s ∧ xsbs t s))
  | _, 0, _, hg, _ => absurd hg (Nat.not_lt_zero _)
  | 0, g + 1, i, _, hi => by
    have hN := w.1
    unfold fQ_holds_L2
    rw [e7, (xshl1_pw hN.1 (by omega)).1, if_neg (by omega)]
    exact xP_some (Or.inr ⟨rfl, fun ⟨s, s0, s1, _⟩ => by have := xcan_rg w h s s1; omega⟩)
  | n + 1, g + 1, i, hg, hi => by
    have hN := w.1
    have hH := w.2.1
    have hp := xpw2 (V 0 0).toNat (by omega)
    have ci := hR i (by omega) (by omega)
    have next : ¬ (xcan V h i ∧ xsbs t i) → xP (fQ_holds_L2 g 310 h t ((i : Int) + 1) m) (fun v => (v = 1 ∧ ∃ s : Int, i ≤ s ∧ xcan V h s ∧ xsbs t s) ∨ (v = 0 ∧ ¬ ∃ s : Int, i ≤ s ∧ xcan V h s ∧ xsbs t s)) := by
      intro hno
      refine xP_mono (holds_L (t := t) w e7 hh hR n g (i + 1) (by omega) (by omega)) ?_
      rintro v (⟨e, s, s0, s1⟩ | ⟨e, x⟩)
      · exact Or.inl ⟨e, s, by omega, s1⟩
      · refine Or.inr ⟨e, fun ⟨s, s0, s1⟩ => ?_⟩
        by_cases es : s = i
        · rw [es] at s1; exact hno s1
        · exact x ⟨s, by omega, s1⟩
    unfold fQ_holds_L2
    rw [e7, (xshl1_pw hN.1 (by omega)).1, if_pos (by omega), xw32_id (x := 512 * (h : Int)) (by omega) (by omega), xw32_id (x := 512 * (h : Int) + i) (by omega) (by omega), xA_p (by omega), xw32_id (x := (i : Int) + 1) (by omega) (by omega)]
    by_cases e : m (310 + 17) (512 * (h : Int) + i) = 0
    · rw [if_pos e]
      exact next (fun x => ci.mpr x.1 e)
    · rw [if_neg e]
      by_cases z : xand t (xxor (i : Int) (-1)) = 0
      · rw [if_pos z]
        exact xP_some (Or.inl ⟨rfl, i, Int.le_refl _, ci.mp e, xsbs_and.mp z⟩)
      · rw [if_neg z]
        exact next (fun x => z (xsbs_and.mpr x.2))
theorem holds_s {V m : xM} {t : Int} {h : Nat} (w : xWF V) (e7 : m (310 + 7) 0 = V 0 0) (hh : (h : Int) ≤ V 0 1) (hR : xRw m 310 h (xcan V h)) : xP (fQ_holds 310 h t m) (fun v => (v = 1 ∧ ∃ s : Int, xcan V h s ∧ xsbs t s) ∨ (v = 0 ∧ ¬ ∃ s : Int, xcan V h s ∧ xsbs t s)) := by
  have hN := w.1
  have hp := xpw2 (V 0 0).toNat (by omega)
  have hp1 : (1 : Int) ≤ 2 ^ (V 0 0).toNat := Int.pow_pos (by decide)
  refine xP_mono (holds_L (t := t) w e7 hh hR ((2 : Int) ^ (V 0 0).toNat).toNat 20001 0 (by omega) (by omega)) ?_
  rintro v (⟨e, s, s0, s1⟩ | ⟨e, x⟩)
  · exact Or.inl ⟨e, s, s1⟩
  · exact Or.inr ⟨e, fun ⟨s, s1⟩ => x ⟨s, by have := xcan_rg w h s s1.1; omega, s1⟩⟩
theorem with_D {M V : xM} (W : xWF V) (l : xLook M (1 + 37) V) {h : Nat} {t : Int} (t0 : 0 ≤ t) (t1 : t < 512) (hh : (h : Int) ≤ V 0 1) : xP (fSets_largestWith (rr (1 + 37) h) t M) (fun q => xMx (fun s => xcan V h s ∧ xsbs t s) q ∧ (q = -1 ↔ ¬ ∃ s : Int, xcan V h s ∧ xsbs t s)) := by
  refine xP_mono (largestWith_s (l.2 h hh) t0 t1) (fun q hq => ⟨hq, ?_⟩)
  constructor
  · rintro e ⟨s, a, b⟩
    have r := xcan_9 W a
    have := hq.1 s r.1 r.2 ⟨a, b⟩
    have := xpc_rg s
    omega
  · intro e
    rcases hq.2 with ⟨x, -⟩ | ⟨s, s0, s1, s2, -⟩
    · exact x
    · exact absurd ⟨s, s2⟩ e
theorem togD_L {M V : xM} {x : Int} (W : xWF V) (hv1 : M (1 + 15) 1 = V 0 1) (x0 : 0 ≤ x) (x1 : x < 512) (l : xLook M (1 + 37) V) : ∀ (n g i : Nat), n < g → (i : Int) + n = V 0 1 → fD_together_L32 g 1 x (i : Int) M = some (xff (fun h => xdc (∃ s : Int, xcan V (h + 1) s ∧ xsbs x s)) n i)
  | _, 0, _, hg, _ => absurd hg (Nat.not_lt_zero _)
  | 0, g + 1, i, _, hi => by
    unfold fD_together_L32 xff
    rw [hv1, if_neg (by omega)]
  | n + 1, g + 1, i, hg, hi => by
    have hH := W.2.1
    obtain ⟨v, e, -, hx⟩ := with_D W l (h := i + 1) x0 x1 (by omega)
    rw [fD_together_L32, xff]
    rw [hv1, if_pos (by omega), xw32_id (x := (i : Int) + 1) (by omega) (by omega), xA_p (by omega), rr_at, show ((i : Int) + 1) = ((i + 1 : Nat) : Int) from rfl, e, xB_s]
    by_cases c : v = -1
    · rw [if_pos c, if_neg (fun y => (hx.mp c) (xdc_t.mp y))]
      exact togD_L W hv1 x0 x1 l n g (i + 1) (by omega) (by omega)
    · rw [if_neg c, if_pos (xdc_t.mpr (Classical.byContradiction (fun y => c (hx.mpr y))))]
theorem togQ_L {m V : xM} {x : Int} (W : xWF V) (E : xEf m 310 V) (R : ∀ h : Nat, (h : Int) ≤ V 0 1 → xRw m 310 h (xcan V h)) : ∀ (n g i : Nat), n < g → (i : Int) + n = V 0 1 → fQ_together_L42 g 310 x (i : Int) m = some (xff (fun h => xdc (∃ s : Int, xcan V (h + 1) s ∧ xsbs x s)) n i, m)
  | _, 0, _, hg, _ => absurd hg (Nat.not_lt_zero _)
  | 0, g + 1, i, _, hi => by
    unfold fQ_together_L42 xff
    rw [E.1.2.1, if_neg (by omega)]
  | n + 1, g + 1, i, hg, hi => by
    have hH := W.2.1
    obtain ⟨v, e, hx⟩ := holds_s (t := x) W E.1.1 (h := i + 1) (by omega) (R (i + 1) (by omega))
    rw [fQ_together_L42, xff]
    rw [E.1.2.1, if_pos (by omega), xw32_id (x := (i : Int) + 1) (by omega) (by omega), show ((i : Int) + 1) = ((i + 1 : Nat) : Int) from rfl, e, xB_s]
    rcases hx with ⟨rfl, y⟩ | ⟨rfl, y⟩
    · rw [if_neg (by decide), if_pos (xdc_t.mpr y)]
    · rw [if_pos rfl, if_neg (fun z => y (xdc_t.mp z))]
      exact togQ_L W E R n g (i + 1) (by omega) (by omega)
theorem call_25 {M : xM} (S : Sim M) (x : Int) : xC1 (fD_together 1 x M) (fQ_together 310 x M) M := by
  obtain ⟨V, hv, W, Q, K, Q0, L⟩ := opn S
  have hN := W.1.1
  have hH := W.1.2.1
  have hp := xshl1_pw hN.1 (by omega)
  have hp9 := xpw2 (V 0 0).toNat (by omega)
  unfold fD_together fQ_together
  rw [stands_s, qPrison_s Q0 W, xPv_0 hv 0 (by decide) (by decide), fQ_in_s, show (xwr M 310 0 0) (310 + 7) 0 = V 0 0 from Q0.1.1.2.1, hp.1, xw32_id (by omega) (by omega)]
  simp only [if10]
  by_cases h1 : 0 < V 0 0
  · have p2 := W2p W h1
    rw [if_neg (not_not_intro h1), if_neg (not_not_intro h1)]
    by_cases h2 : 0 ≤ x ∧ x ≤ 2 ^ (V 0 0).toNat - 1
    · rw [if_neg (show ¬ x < 0 by omega), if_pos (show x < 2 ^ (V 0 0).toNat by omega), if_neg (not_not_intro h2)]
      refine xC1_Q (togD_L (V := V) W.1 (xPv_0 hv 1 (by decide) (by decide)) h2.1 (by omega) (L p2).1 (V 0 1).toNat 20001 0 (by omega) (by omega)) ?_
      refine xP_B (mostPlain_s Q0 W p2) ?_
      rintro ⟨v, m⟩ ⟨-, k1, E, D, P, R⟩
      exact xP_of (togQ_L (V := V) W.1 E R (V 0 1).toNat 20001 0 (by omega) (by omega)) ⟨rfl, xKp_tr K k1⟩
    · rw [if_pos h2]
      by_cases h3 : x < 0
      · rw [if_pos h3]; exact xC1_eq rfl rfl K
      · rw [if_neg h3, if_neg (show ¬ x < 2 ^ (V 0 0).toNat by omega)]; exact xC1_eq rfl rfl K
  · rw [if_pos h1, if_pos h1]; exact xC1_eq rfl rfl K
theorem atLast_s {M V : xM} (W : xWF V) (l : xLook M (1 + 37) V) : fOutlook_atLast (1 + 37) M = some (rr (1 + 37) ((V 0 1).toNat : Nat)) := by
  have hH := W.2.1
  have e : M (1 + 37 + 1) 1 = V 0 1 := l.1.2.1
  unfold fOutlook_atLast
  rw [e, xA_p (by omega), rr_at, Int.toNat_of_nonneg hH.1]
def xlkd (V : xM) (c : Int) : Bool := xdc (¬ ∃ s : Int, xcan V (V 0 1).toNat s ∧ xsbs (xshl 1 c) s)
theorem shl_9 {c : Int} (h0 : 0 ≤ c) (h1 : c < 9) : 0 ≤ xshl 1 c ∧ xshl 1 c < 512 := by
  have := xad_rg (s := 0) (c := c) (n := 9) (by decide) (by decide) h0 (by omega) (by decide)
  have e : xad 0 c = xshl 1 c := by
    unfold xad
    exact xbt_ext (xor_in _ _) (xshl_in _ _) (fun d d0 d1 => by rw [xbt_or, xbt_0]; rfl)
  rw [e] at this
  exact this
theorem lockD_L {M V : xM} (W : xWF V) (hv0 : M (1 + 15) 0 = V 0 0) (l : xLook M (1 + 37) V) : ∀ (n g i : Nat) (r : Int), n < g → (i : Int) + n = V 0 0 → xBs i (xlkd V) r → xP (fD_locked_L17 g 1 r (i : Int) M) (fun x => xBs (V 0 0) (xlkd V) x)
  | _, 0, _, _, hg, _, _ => absurd hg (Nat.not_lt_zero _)
  | 0, g + 1, i, r, _, hi, hr => by
    unfold fD_locked_L17
    rw [hv0, if_neg (by omega)]
    rw [show (i : Int) = V 0 0 by omega] at hr
    exact xP_some hr
  | n + 1, g + 1, i, r, hg, hi, hr => by
    have hN := W.1
    have hH := W.2.1
    have st := xBs_s hr (by omega)
    have t := shl_9 (c := (i : Int)) (by omega) (by omega)
    unfold fD_locked_L17
    rw [hv0, if_pos (by omega), atLast_s W l, xB_s, xw32_id (x := (i : Int) + 1) (by omega) (by omega)]
    refine xP_B (with_D W l t.1 t.2 (by omega)) ?_
    rintro v ⟨-, hx⟩
    by_cases c : v = -1
    · rw [if_pos c]
      exact lockD_L W hv0 l n g (i + 1) _ (by omega) (by omega) (st.1 (xdc_t.mpr (hx.mp c)))
    · rw [if_neg c]
      exact lockD_L W hv0 l n g (i + 1) _ (by omega) (by omega) (st.2 (xdc_f.mpr (fun y => c (hx.mpr y))))
theorem lockQ_L {m V : xM} (W : xWF V) (E : xEf m 310 V) (R : ∀ h : Nat, (h : Int) ≤ V 0 1 → xRw m 310 h (xcan V h)) : ∀ (n g i : Nat) (r : Int), n < g → (i : Int) + n = V 0 0 → xBs i (xlkd V) r → xP (fQ_locked_L24 g 310 r (i : Int) m) (fun x => xBs (V 0 0) (xlkd V) x.1 ∧ x.2 = m)
  | _, 0, _, _, hg, _, _ => absurd hg (Nat.not_lt_zero _)
  | 0, g + 1, i, r, _, hi, hr => by
    unfold fQ_locked_L24
    rw [E.1.1, if_neg (by omega)]
    rw [show (i : Int) = V 0 0 by omega] at hr
    exact xP_some ⟨hr, rfl⟩
  | n + 1, g + 1, i, r, hg, hi, hr => by
    have hN := W.1
    have hH := W.2.1
    have st := xBs_s hr (by omega)
    have e1 : m (310 + 7) 1 = (((V 0 1).toNat : Nat) : Int) := by rw [E.1.2.1]; omega
    unfold fQ_locked_L24
    rw [E.1.1, if_pos (by omega), e1, xw32_id (x := (i : Int) + 1) (by omega) (by omega), xor_0r hr.1]
    refine xP_B (holds_s (t := xshl 1 (i : Int)) W E.1.1 (by omega) (R _ (by omega))) ?_
    rintro v (⟨rfl, y⟩ | ⟨rfl, y⟩)
    · rw [if_neg (by decide)]
      exact lockQ_L W E R n g (i + 1) _ (by omega) (by omega) (st.2 (xdc_f.mpr (fun z => z y)))
    · rw [if_pos rfl]
      exact lockQ_L W E R n g (i + 1) _ (by omega) (by omega) (st.1 (xdc_t.mpr y))
theorem call_26 {M : xM} (S : Sim M) : xC1 (fD_locked 1 M) (fQ_locked 310 M) M := by
  obtain ⟨V, hv, W, Q, K, Q0, L⟩ := opn S
  have hN := W.1.1
  unfold fD_locked fQ_locked
  rw [stands_s, qPrison_s Q0 W, xPv_0 hv 0 (by decide) (by decide)]
  simp only [if10]
  by_cases h1 : 0 < V 0 0
  · have p2 := W2p W h1
    rw [if_neg (not_not_intro h1), if_neg (not_not_intro h1)]
    refine xC1_of (lockD_L (V := V) W.1 (xPv_0 hv 0 (by decide) (by decide)) (L p2).1 (V 0 0).toNat 20001 0 0 (by omega) (by omega) xBs_0) ?_ (fun r s a b => xBs_one a b)
    refine xP_B (mostPlain_s Q0 W p2) ?_
    rintro ⟨v, m⟩ ⟨-, k1, E, D, P, R⟩
    refine xP_mono (lockQ_L (V := V) W.1 E R (V 0 0).toNat 20001 0 0 (by omega) (by omega) xBs_0) ?_
    rintro x ⟨a, b⟩
    exact ⟨a, by rw [b]; exact xKp_tr K k1⟩
  · rw [if_pos h1, if_pos h1]; exact xC1_eq rfl rfl K
def xlf (p : Nat → Bool) : Nat → Int
  | 0 => -1
  | n + 1 => if p n = true then (n : Int) else xlf p n
theorem lateD_L {M V : xM} {c : Int} (k : xKO M (1 + 37 + 1) V) (w : xWF V) (c0 : 0 ≤ c) (c1 : c < V 0 0) : ∀ (n g : Nat), n < g → (n : Int) ≤ V 0 1 → fD_latest_L24 g 1 c ((n : Int) - 1) M = some (xlf (fun h => xOk V c h) n)
  | _, 0, hg, _ => absurd hg (Nat.not_lt_zero _)
  | 0, g + 1, _, _ => by
    unfold fD_latest_L24 xlf
    rw [if_pos (by omega)]
  | n + 1, g + 1, hg, hn => by
    have hN := w.1
    have hH := w.2.1
    have B := open_s k c0 c1
    rw [fD_latest_L24, xlf]
    rw [if_neg (by omega), xA_p (by omega), show ((n + 1 : Nat) : Int) - 1 = (n : Int) by omega, fD_bit_s _ M (by omega) (by omega), B.2 n (by omega) (by omega), decide_eq_true (by omega), Bool.true_and, xw32_id (by omega) (by omega), show (n : Int) + -1 = (n : Int) - 1 by omega]
    by_cases e : xOk V c n = true
    · rw [if_pos ((xif10 _).mpr e), if_pos e]
    · rw [if_neg (fun x => e ((xif10 _).mp x)), if_neg e]
      exact lateD_L k w c0 c1 n g (by omega) (by omega)
theorem someQ_L {m V : xM} {c : Int} {h : Nat} (W : xWF V) (E : xEf m 310 V) (D : xWd m 310 V (fun _ => false)) (hh : (h : Int) < V 0 1) (c0 : 0 ≤ c) (c1 : c < V 0 0) (ho : xOk V c h = false) : ∀ (n g i : Nat), n < g → (i : Int) + n = 2 ^ (V 0 0).toNat → fQ_opensSome_L2 g 310 c h (i : Int) m = some 0
  | _, 0, _, hg, _ => absurd hg (Nat.not_lt_zero _)
  | 0, g + 1, i, _, hi => by
    have hN := W.1
    unfold fQ_opensSome_L2
    rw [E.1.1, (xshl1_pw hN.1 (by omega)).1, if_neg (by omega)]
  | n + 1, g + 1, i, hg, hi => by
    have hN := W.1
    have hH := W.2.1
    have hp := xpw2 (V 0 0).toNat (by omega)
    have no : xop V c h i = false := by
      cases e : xop V c h i
      · rfl
      · rw [(xop_iff.mp e).1] at ho; cases ho
    unfold fQ_opensSome_L2
    rw [E.1.1, (xshl1_pw hN.1 (by omega)).1, if_pos (by omega), xw32_id (x := 512 * (h : Int)) (by omega) (by omega), xw32_id (x := 512 * (h : Int) + i) (by omega) (by omega), xA_p (by omega), xw32_id (x := (i : Int) + 1) (by omega) (by omega), opens_s E D W c0 c1 (by omega) hh, xB_s, no]
    by_cases z : m (310 + 17) (512 * (h : Int) + i) = 0
    · rw [if_pos z]
      exact someQ_L W E D hh c0 c1 ho n g (i + 1) (by omega) (by omega)
    · rw [if_neg z]
      exact someQ_L W E D hh c0 c1 ho n g (i + 1) (by omega) (by omega)
theorem some_s {m V : xM} {c : Int} {h : Nat} (W : xWF V) (E : xEf m 310 V) (D : xWd m 310 V (fun _ => false)) (R : xRw m 310 h (xcan V h)) (hh : (h : Int) < V 0 1) (c0 : 0 ≤ c) (c1 : c < V 0 0) : fQ_opensSome 310 c h m = some (if xOk V c h = true then 1 else 0) := by
  have hN := W.1
  have hH := W.2.1
  have hp := xpw2 (V 0 0).toNat (by omega)
  have hp1 : (1 : Int) ≤ 2 ^ (V 0 0).toNat := Int.pow_pos (by decide)
  unfold fQ_opensSome
  cases ho : xOk V c h
  · exact someQ_L W E D hh c0 c1 ho ((2 : Int) ^ (V 0 0).toNat).toNat 20001 0 (by omega) (by omega)
  · have c0' := (R 0 (by decide) (by decide)).mpr (xcan_0 V h)
    rw [fQ_opensSome_L2, E.1.1, (xshl1_pw hN.1 (by omega)).1, if_pos (by omega), xw32_id (x := 512 * (h : Int)) (by omega) (by omega), xw32_id (x := 512 * (h : Int) + 0) (by omega) (by omega), xA_p (by omega), if_neg c0', opens_s E D W c0 c1 (by omega) hh, xB_s, xop_0, ho, if_neg (by decide)]
    rfl
theorem lateQ_L {m V : xM} {c : Int} (W : xWF V) (E : xEf m 310 V) (D : xWd m 310 V (fun _ => false)) (R : ∀ h : Nat, (h : Int) ≤ V 0 1 → xRw m 310 h (xcan V h)) (c0 : 0 ≤ c) (c1 : c < V 0 0) : ∀ (n g : Nat), n < g → (n : Int) ≤ V 0 1 → fQ_latest_L31 g 310 c ((n : Int) - 1) m = some (xlf (fun h => xOk V c h) n, m)
  | _, 0, hg, _ => absurd hg (Nat.not_lt_zero _)
  | 0, g + 1, _, _ => by
    unfold fQ_latest_L31 xlf
    rw [if_pos (by omega)]
  | n + 1, g + 1, hg, hn => by
    have hN := W.1
    have hH := W.2.1
    rw [fQ_latest_L31, xlf]
    rw [if_neg (by omega), show ((n + 1 : Nat) : Int) - 1 = (n : Int) by omega, some_s W E D (R n (by omega)) (by omega) c0 c1, xB_s, xw32_id (by omega) (by omega), show (n : Int) + -1 = (n : Int) - 1 by omega]
    by_cases e : xOk V c n = true
    · rw [if_neg (by rw [if_pos e]; decide), if_pos e]
    · rw [if_pos (by rw [if_neg e]), if_neg e]
      exact lateQ_L W E D R c0 c1 n g (by omega) (by omega)
theorem call_28 {M : xM} (S : Sim M) (c : Int) : xC1 (fD_latest 1 c M) (fQ_latest 310 c M) M := by
  obtain ⟨V, hv, W, Q, K, Q0, L⟩ := opn S
  have hH := W.1.2.1
  unfold fD_latest fQ_latest
  rw [hasCell_s, qCell_s Q0 W, xPv_0 hv 0 (by decide) (by decide)]
  simp only [if10]
  by_cases h1 : 0 ≤ c ∧ c < V 0 0
  · have p2 := W2 W h1.1 h1.2
    have e : V 0 1 - 1 = (((V 0 1).toNat : Nat) : Int) - 1 := by omega
    rw [if_neg (not_not_intro h1), if_neg (not_not_intro h1), xPv_0 hv 1 (by decide) (by decide), xw32_id (by omega) (by omega), e]
    refine xC1_Q (lateD_L (V := V) (L p2).1.1 W.1 h1.1 h1.2 (V 0 1).toNat 20001 (by omega) (by omega)) ?_
    refine xP_B (mostPlain_s Q0 W p2) ?_
    rintro ⟨v, m⟩ ⟨-, k1, E, D, P, R⟩
    show xP (fQ_latest_L31 20001 310 c (xw32 (m (310 + 7) 1 - 1)) m) _
    rw [show m (310 + 7) 1 = V 0 1 from E.1.2.1, xw32_id (by omega) (by omega), e]
    exact xP_of (lateQ_L (V := V) W.1 E D R h1.1 h1.2 (V 0 1).toNat 20001 (by omega) (by omega)) ⟨rfl, xKp_tr K k1⟩
  · rw [if_pos h1, if_pos h1]; exact xC1_eq rfl rfl K
theorem earlD_L {M V : xM} {c : Int} (hv1 : M (1 + 15) 1 = V 0 1) (k : xKO M (1 + 37 + 1) V) (w : xWF V) (c0 : 0 ≤ c) (c1 : c < V 0 0) : ∀ (n g i : Nat), n < g → (i : Int) + n = V 0 1 → fD_earliest_L16 g 1 c (i : Int) M = some (xff (fun h => xOk V c h) n i)
  | _, 0, _, hg, _ => absurd hg (Nat.not_lt_zero _)
  | 0, g + 1, i, _, hi => by
    unfold fD_earliest_L16 xff
    rw [hv1, if_neg (by omega)]
  | n + 1, g + 1, i, hg, hi => by
    have hN := w.1
    have hH := w.2.1
    have B := open_s k c0 c1
    rw [fD_earliest_L16, xff]
    rw [hv1, if_pos (by omega), xA_p (by omega), fD_bit_s _ M (by omega) (by omega), B.2 i (by omega) (by omega), decide_eq_true (by omega), Bool.true_and, xw32_id (x := (i : Int) + 1) (by omega) (by omega)]
    by_cases e : xOk V c i = true
    · rw [if_pos ((xif10 _).mpr e), if_pos e]
    · rw [if_neg (fun x => e ((xif10 _).mp x)), if_neg e]
      exact earlD_L hv1 k w c0 c1 n g (i + 1) (by omega) (by omega)
theorem earlQ_L {m V : xM} {c : Int} (W : xWF V) (E : xEf m 310 V) (D : xWd m 310 V (fun _ => false)) (R : ∀ h : Nat, (h : Int) ≤ V 0 1 → xRw m 310 h (xcan V h)) (c0 : 0 ≤ c) (c1 : c < V 0 0) : ∀ (n g i : Nat), n < g → (i : Int) + n = V 0 1 → fQ_earliest_L24 g 310 c (i : Int) m = some (xff (fun h => xOk V c h) n i, m)
  | _, 0, _, hg, _ => absurd hg (Nat.not_lt_zero _)
  | 0, g + 1, i, _, hi => by
    unfold fQ_earliest_L24 xff
    rw [E.1.2.1, if_neg (by omega)]
  | n + 1, g + 1, i, hg, hi => by
    have hH := W.2.1
    rw [fQ_earliest_L24, xff]
    rw [E.1.2.1, if_pos (by omega), some_s W E D (R i (by omega)) (by omega) c0 c1, xB_s, xw32_id (x := (i : Int) + 1) (by omega) (by omega)]
    by_cases e : xOk V c i = true
    · rw [if_neg (by rw [if_pos e]; decide), if_pos e]
    · rw [if_pos (by rw [if_neg e]), if_neg e]
      exact earlQ_L W E D R c0 c1 n g (i + 1) (by omega) (by omega)
theorem call_29 {M : xM} (S : Sim M) (c : Int) : xC1 (fD_earliest 1 c M) (fQ_earliest 310 c M) M := by
  obtain ⟨V, hv, W, Q, K, Q0, L⟩ := opn S
  have hH := W.1.2.1
  unfold fD_earliest fQ_earliest
  rw [hasCell_s, qCell_s Q0 W, xPv_0 hv 0 (by decide) (by decide)]
  simp only [if10]
  by_cases h1 : 0 ≤ c ∧ c < V 0 0
  · have p2 := W2 W h1.1 h1.2
    rw [if_neg (not_not_intro h1), if_neg (not_not_intro h1)]
    refine xC1_Q (earlD_L (V := V) (xPv_0 hv 1 (by decide) (by decide)) (L p2).1.1 W.1 h1.1 h1.2 (V 0 1).toNat 20001 0 (by omega) (by omega)) ?_
    refine xP_B (mostPlain_s Q0 W p2) ?_
    rintro ⟨v, m⟩ ⟨-, k1, E, D, P, R⟩
    exact xP_of (earlQ_L (V := V) W.1 E D R h1.1 h1.2 (V 0 1).toNat 20001 0 (by omega) (by omega)) ⟨rfl, xKp_tr K k1⟩
  · rw [if_pos h1, if_pos h1]; exact xC1_eq rfl rfl K
end
