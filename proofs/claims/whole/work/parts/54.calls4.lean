/-! calls, fourth batch: doors, sleepers, pairs, counts -/
noncomputable section
theorem opensD {M V : xM} {c h o : Int} (l : xKO M (1 + 37 + 1) V) (w : xWF V) (h0 : 0 ≤ c) (h1 : c < V 0 0) (hh : 0 ≤ h) (hh2 : h < V 0 1) : fKeys_opensFor (1 + 37 + 1) c h o M = some (if xop V c h o then 1 else 0) := opensFor_s l w h0 h1 hh hh2
theorem doorsD_L {M V : xM} {h o : Int} (W : xWF V) (hv0 : M (1 + 15) 0 = V 0 0) (k : xKO M (1 + 37 + 1) V) (h0 : 0 ≤ h) (h1 : h < V 0 1) : ∀ (n g i : Nat) (r : Int), n < g → (i : Int) + n = V 0 0 → xBs i (fun c => xop V c h o) r → xP (fD_openDoors_L14 g 1 h r o (i : Int) M) (fun x => xBs (V 0 0) (fun c => xop V c h o) x)
  | _, 0, _, _, hg, _, _ => absurd hg (Nat.not_lt_zero _)
  | 0, g + 1, i, r, _, hi, hr => by
    unfold fD_openDoors_L14
    rw [hv0, if_neg (by omega)]
    rw [show (i : Int) = V 0 0 by omega] at hr
    exact xP_some hr
  | n + 1, g + 1, i, r, hg, hi, hr => by
    have hN := W.1
    have st := xBs_s hr (by omega)
    unfold fD_openDoors_L14
    rw [hv0, if_pos (by omega), opensD k W (by omega) (by omega) h0 h1, xB_s, xw32_id (x := (i : Int) + 1) (by omega) (by omega)]
    by_cases e : xop V i h o = true
    · rw [if_neg (by rw [if_pos e]; decide)]
      exact doorsD_L W hv0 k h0 h1 n g (i + 1) _ (by omega) (by omega) (st.1 e)
    · rw [if_pos (by rw [if_neg e])]
      exact doorsD_L W hv0 k h0 h1 n g (i + 1) _ (by omega) (by omega) (st.2 (by simpa using e))
theorem doorsQ_L {m V : xM} {h o : Int} (W : xWF V) (E : xEf m 310 V) (D : xWd m 310 V (fun _ => false)) (h0 : 0 ≤ h) (h1 : h < V 0 1) : ∀ (n g i : Nat) (r : Int), n < g → (i : Int) + n = V 0 0 → xBs i (fun c => xop V c h o) r → xP (fQ_doorsIn_L5 g 310 h o r (i : Int) m) (fun x => xBs (V 0 0) (fun c => xop V c h o) x)
  | _, 0, _, _, hg, _, _ => absurd hg (Nat.not_lt_zero _)
  | 0, g + 1, i, r, _, hi, hr => by
    unfold fQ_doorsIn_L5
    rw [E.1.1, if_neg (by omega)]
    rw [show (i : Int) = V 0 0 by omega] at hr
    exact xP_some hr
  | n + 1, g + 1, i, r, hg, hi, hr => by
    have hN := W.1
    have st := xBs_s hr (by omega)
    unfold fQ_doorsIn_L5
    rw [E.1.1, if_pos (by omega), opens_s E D W (by omega) (by omega) h0 h1, xB_s, xw32_id (x := (i : Int) + 1) (by omega) (by omega), xor_0r hr.1]
    by_cases e : xop V i h o = true
    · rw [if_neg (by rw [if_pos e]; decide)]
      exact doorsQ_L W E D h0 h1 n g (i + 1) _ (by omega) (by omega) (st.1 e)
    · rw [if_pos (by rw [if_neg e])]
      exact doorsQ_L W E D h0 h1 n g (i + 1) _ (by omega) (by omega) (st.2 (by simpa using e))
theorem doorsIn_s {m V : xM} {h : Int} (o : Int) (W : xWF V) (E : xEf m 310 V) (D : xWd m 310 V (fun _ => false)) (h0 : 0 ≤ h) (h1 : h < V 0 1) : xP (fQ_doorsIn 310 h o m) (fun x => xBs (V 0 0) (fun c => xop V c h o) x) := by
  have hN := W.1
  exact doorsQ_L W E D h0 h1 (V 0 0).toNat 20001 0 0 (by omega) (by omega) xBs_0
theorem openDoors_s {M V : xM} (W : xWF V) (hv0 : M (1 + 15) 0 = V 0 0) (l : xLook M (1 + 37) V) (C : xCs M (1 + 255) V) {h : Nat} (h1 : (h : Int) < V 0 1) : xP (fD_openDoors 1 h M) (fun x => xBs (V 0 0) (fun c => xop V c h (xgn V h)) x) := by
  have hN := W.1
  have hH := W.2.1
  unfold fD_openDoors
  rw [ahead_D C hH.2 h (by omega), xB_s]
  exact doorsD_L W hv0 l.1 (by omega) h1 (V 0 0).toNat 20001 0 0 (by omega) (by omega) xBs_0
theorem call_42 {M : xM} (S : Sim M) (h : Int) : xC1 (fD_doors 1 h M) (fQ_doors 310 h M) M := by
  obtain ⟨V, hv, W, Q, K, Q0, L⟩ := opn S
  have hH := W.1.2.1
  unfold fD_doors fQ_doors
  rw [hasHour_s, qHour_s Q0 W, xPv_0 hv 1 (by decide) (by decide)]
  simp only [if10]
  by_cases h1 : 0 ≤ h ∧ h < V 0 1
  · have p2 := W2h W h1.1 h1.2
    obtain ⟨k, rfl⟩ := Int.eq_ofNat_of_zero_le h1.1
    rw [if_neg (not_not_intro h1), if_neg (not_not_intro h1)]
    refine xC1_of (A := fun r => xBs (V 0 0) (fun c => xop V c k (xgn V k)) r) ?_ ?_ (fun r s a b => xBs_one a b)
    · exact xP_B (openDoors_s W.1 (xPv_0 hv 0 (by decide) (by decide)) (L p2).1 (L p2).2 h1.2) (fun v hv => xP_some hv)
    · refine xP_B (asTold_s Q0 W p2) ?_
      rintro m ⟨k1, E, D, P, hm⟩
      rw [ahead_Q hm hH.2 k (by omega), xB_s]
      exact xP_B (doorsIn_s _ W.1 E D (by omega) h1.2) (fun v hv => xP_some ⟨hv, xKp_tr K k1⟩)
  · rw [if_pos h1, if_pos h1]; exact xC1_eq rfl rfl K
def xid (V : xM) (h : Nat) : Int := if xcm V h = -1 ∧ xdc (xBs (V 0 0) (fun c => xop V c h (xgn V h)) 0) = false then 1 else 0
theorem idleD_L {M V : xM} (W : xWF V) (hv0 : M (1 + 15) 0 = V 0 0) (hv1 : M (1 + 15) 1 = V 0 1) (l : xLook M (1 + 37) V) (C : xCs M (1 + 255) V) : ∀ (n g i : Nat) (a : Int), n < g → (i : Int) + n = V 0 1 → 0 ≤ a → a ≤ i → fD_idle_L17 g 1 a (i : Int) M = some (xsm (xid V) n i a)
  | _, 0, _, _, hg, _, _, _ => absurd hg (Nat.not_lt_zero _)
  | 0, g + 1, i, a, _, hi, _, _ => by
    unfold fD_idle_L17 xsm
    rw [hv1, if_neg (by omega)]
  | n + 1, g + 1, i, a, hg, hi, a0, a1 => by
    have hH := W.2.1
    obtain ⟨v, ev, hb⟩ := openDoors_s W hv0 l C (h := i) (by omega)
    rw [fD_idle_L17, xsm]
    rw [hv1, if_pos (by omega), xA_p (by omega), (C i (by omega)).1, xw32_id (x := (i : Int) + 1) (by omega) (by omega), ev, xB_s]
    unfold xid
    by_cases e : xcm V i = -1
    · rw [if_pos e]
      by_cases z : v = 0
      · rw [z] at hb
        rw [if_pos z, if_neg (fun x => by have := xdc_f.mp x.2; exact this hb), Int.add_zero]
        exact idleD_L W hv0 hv1 l C n g (i + 1) a (by omega) (by omega) a0 (by omega)
      · rw [if_neg z, if_pos ⟨e, xdc_f.mpr (fun x => z (xBs_one hb x))⟩, xw32_id (by omega) (by omega)]
        exact idleD_L W hv0 hv1 l C n g (i + 1) _ (by omega) (by omega) (by omega) (by omega)
    · rw [if_neg e, if_neg (fun x => e x.1), Int.add_zero]
      exact idleD_L W hv0 hv1 l C n g (i + 1) a (by omega) (by omega) a0 (by omega)
theorem idleQ_L {m V : xM} (W : xWF V) (E : xEf m 310 V) (D : xWd m 310 V (fun _ => false)) (hm : ∀ h : Nat, (h : Int) < V 0 1 → m (310 + 15) h = xcm V h ∧ m (310 + 16) h = xgn V (h + 1)) : ∀ (n g i : Nat) (a : Int), n < g → (i : Int) + n = V 0 1 → 0 ≤ a → a ≤ i → fQ_idle_L23 g 310 a (i : Int) m = some (xsm (xid V) n i a, m)
  | _, 0, _, _, hg, _, _, _ => absurd hg (Nat.not_lt_zero _)
  | 0, g + 1, i, a, _, hi, _, _ => by
    unfold fQ_idle_L23 xsm
    rw [E.1.2.1, if_neg (by omega)]
  | n + 1, g + 1, i, a, hg, hi, a0, a1 => by
    have hH := W.2.1
    obtain ⟨v, ev, hb⟩ := doorsIn_s (xgn V i) W E D (h := (i : Int)) (by omega) (by omega)
    rw [fQ_idle_L23, xsm]
    rw [E.1.2.1, if_pos (by omega), xA_p (by omega), (hm i (by omega)).1, xw32_id (x := (i : Int) + 1) (by omega) (by omega), Int.add_zero, xw32_id (x := a) (by omega) (by omega), ahead_Q hm hH.2 i (by omega), xB_s, ev, xB_s]
    unfold xid
    by_cases e : xcm V i = -1
    · rw [if_pos e]
      by_cases z : v = 0
      · rw [z] at hb
        rw [if_pos z, if_neg (fun x => by have := xdc_f.mp x.2; exact this hb), Int.add_zero]
        exact idleQ_L W E D hm n g (i + 1) a (by omega) (by omega) a0 (by omega)
      · rw [if_neg z, if_pos ⟨e, xdc_f.mpr (fun x => z (xBs_one hb x))⟩, xw32_id (by omega) (by omega)]
        exact idleQ_L W E D hm n g (i + 1) _ (by omega) (by omega) (by omega) (by omega)
    · rw [if_neg e, if_neg (fun x => e x.1), Int.add_zero]
      exact idleQ_L W E D hm n g (i + 1) a (by omega) (by omega) a0 (by omega)
theorem call_43 {M : xM} (S : Sim M) : xC1 (fD_idle 1 M) (fQ_idle 310 M) M := by
  obtain ⟨V, hv, W, Q, K, Q0, L⟩ := opn S
  have hH := W.1.2.1
  unfold fD_idle fQ_idle
  rw [stands_s, qPrison_s Q0 W, xPv_0 hv 0 (by decide) (by decide)]
  simp only [if10]
  by_cases h1 : 0 < V 0 0
  · have p2 := W2p W h1
    rw [if_neg (not_not_intro h1), if_neg (not_not_intro h1)]
    refine xC1_Q (idleD_L (V := V) W.1 (xPv_0 hv 0 (by decide) (by decide)) (xPv_0 hv 1 (by decide) (by decide)) (L p2).1 (L p2).2 (V 0 1).toNat 20001 0 0 (by omega) (by omega) (by decide) (by decide)) ?_
    refine xP_B (asTold_s Q0 W p2) ?_
    rintro m ⟨k1, E, D, P, hm⟩
    exact xP_of (idleQ_L (V := V) W.1 E D hm (V 0 1).toNat 20001 0 0 (by omega) (by omega) (by decide) (by decide)) ⟨rfl, xKp_tr K k1⟩
  · rw [if_pos h1, if_pos h1]; exact xC1_eq rfl rfl K
theorem xct_cut (p : Nat → Bool) (n : Nat) : ∀ k : Nat, n ≤ k → xct (fun i => decide (i < n) && p i) k = xct p n
  | 0, h => by
    have : n = 0 := by omega
    subst this; rfl
  | k + 1, h => by
    by_cases e : n = k + 1
    · subst e
      exact xct_cong (fun i hi => by rw [decide_eq_true hi, Bool.true_and])
    · rw [xct, xct_cut p n k (by omega), if_neg (by rw [decide_eq_false (by omega), Bool.false_and]; decide)]; rfl
theorem xBs_pc {n : Int} {p : Int → Bool} {r : Int} (h : xBs n p r) (n0 : 0 ≤ n) (n1 : n ≤ 32) : xpc r = (xct (fun i => p i) n.toNat : Nat) := by
  unfold xpc
  rw [← xct_cut (fun i => p i) n.toNat 32 (by omega)]
  congr 1
  exact xct_cong (fun k hk => by
    rw [h.2 k (by omega) (by omega)]
    congr 1
    apply decide_eq_decide.mpr
    omega)
theorem xsm_snoc (f : Nat → Int) : ∀ (k i : Nat) (a : Int), xsm f (k + 1) i a = xsm f k i a + f (i + k)
  | 0, i, a => rfl
  | k + 1, i, a => by
    rw [xsm, xsm_snoc f k (i + 1) (a + f i), xsm, show i + 1 + k = i + (k + 1) by omega]
theorem xsm_ct {f : Nat → Int} {p : Nat → Bool} : ∀ (n : Nat), (∀ i, i < n → f i = if p i = true then 1 else 0) → ∀ a : Int, xsm f n 0 a = a + (xct p n : Nat)
  | 0, _, a => by simp [xsm, xct]
  | n + 1, h, a => by
    rw [xsm_snoc, xsm_ct n (fun i hi => h i (by omega)) a, xct, Nat.zero_add, h n (by omega)]
    split <;> simp <;> omega
theorem howMany_L {M : xM} {N h a : Int} {p : Nat → Bool} (hv0 : M (1 + 15) 0 = N) (hN : N ≤ 9) (hp : ∀ c : Nat, (c : Int) < N → fD_bit (M a c) h M = if p c = true then 1 else 0) : ∀ (n g i : Nat) (r : Int), n < g → (i : Int) + n = N → 0 ≤ r → r ≤ i → fD_howManyHave_L5 g 1 a h r (i : Int) M = some (xsm (fun c => if p c = true then 1 else 0) n i r)
  | _, 0, _, _, hg, _, _, _ => absurd hg (Nat.not_lt_zero _)
  | 0, g + 1, i, r, _, hi, _, _ => by
    unfold fD_howManyHave_L5 xsm
    rw [hv0, if_neg (by omega)]
  | n + 1, g + 1, i, r, hg, hi, r0, r1 => by
    have b : 0 ≤ (if p i = true then (1 : Int) else 0) ∧ (if p i = true then (1 : Int) else 0) ≤ 1 := by split <;> omega
    rw [fD_howManyHave_L5, xsm]
    rw [hv0, if_pos (by omega), xA_p (by omega), hp i (by omega), xw32_id (x := (i : Int) + 1) (by omega) (by omega), xw32_id (by omega) (by omega)]
    exact howMany_L hv0 hN hp n g (i + 1) _ (by omega) (by omega) (by omega) (by omega)
theorem howMany_s {M : xM} {N h a : Int} {p : Nat → Bool} (hv0 : M (1 + 15) 0 = N) (n0 : 0 ≤ N) (hN : N ≤ 9) (hp : ∀ c : Nat, (c : Int) < N → fD_bit (M a c) h M = if p c = true then 1 else 0) : fD_howManyHave 1 a h M = some ((xct p N.toNat : Nat) : Int) := by
  have := howMany_L hv0 hN hp N.toNat 20001 0 0 (by omega) (by omega) (by decide) (by decide)
  rw [xsm_ct (p := p) N.toNat (fun i _ => rfl), Int.zero_add] at this
  exact this
/-- the first of the greatest -/
def xam (f : Nat → Int) : Nat → Nat → Int → Int → Int × Int
  | 0, _, best, most => (best, most)
  | k + 1, i, best, most => if most < f i then xam f k (i + 1) (i : Int) (f i) else xam f k (i + 1) best most
def xon (V : xM) (h : Nat) : Int := (xct (fun c => xOk V c h) (V 0 0).toNat : Nat)
theorem busyD_L {M V : xM} {x : Int} (W : xWF V) (hv0 : M (1 + 15) 0 = V 0 0) (hv1 : M (1 + 15) 1 = V 0 1) (k : xKO M (1 + 37 + 1) V) : ∀ (n g i : Nat) (best most : Int), n < g → (i : Int) + n = V 0 1 → fD_busy_L29 g 1 x most best (i : Int) M = some (if x = 0 then (xam (xon V) n i best most).1 else (xam (xon V) n i best most).2)
  | _, 0, _, _, _, hg, _ => absurd hg (Nat.not_lt_zero _)
  | 0, g + 1, i, best, most, _, hi => by
    unfold fD_busy_L29 xam
    rw [hv1, if_neg (by omega)]
  | n + 1, g + 1, i, best, most, hg, hi => by
    have hN := W.1
    have hH := W.2.1
    have hm := howMany_s (M := M) (h := (i : Int)) (a := (1 + 37 + 1) + 2) (p := fun c => xOk V c i) hv0 hN.1 hN.2 (fun c hc => by
      rw [fD_bit_s _ M (by omega) (by omega), (open_s k (c := (c : Int)) (by omega) hc).2 i (by omega) (by omega), decide_eq_true (by omega), Bool.true_and])
    rw [fD_busy_L29, xam]
    rw [hv1, if_pos (by omega), hm, xB_s, xw32_id (x := (i : Int) + 1) (by omega) (by omega)]
    show (if most < xon V i then _ else _) = _
    by_cases e : most < xon V i
    · rw [if_pos e, if_pos e]
      exact busyD_L W hv0 hv1 k n g (i + 1) _ _ (by omega) (by omega)
    · rw [if_neg e, if_neg e]
      exact busyD_L W hv0 hv1 k n g (i + 1) _ _ (by omega) (by omega)
theorem busyQ_L {m V : xM} {x : Int} (W : xWF V) (E : xEf m 310 V) (D : xWd m 310 V (fun _ => false)) : ∀ (n g i : Nat) (best most : Int), n < g → (i : Int) + n = V 0 1 → fQ_busy_L36 g 310 x best most (i : Int) m = some (if x = 0 then (xam (xon V) n i best most).1 else (xam (xon V) n i best most).2, m)
  | _, 0, _, _, _, hg, _ => absurd hg (Nat.not_lt_zero _)
  | 0, g + 1, i, best, most, _, hi => by
    unfold fQ_busy_L36 xam
    rw [E.1.2.1, if_neg (by omega)]
  | n + 1, g + 1, i, best, most, hg, hi => by
    have hN := W.1
    have hH := W.2.1
    obtain ⟨v, ev, hb⟩ := doorsIn_s 0 W E D (h := (i : Int)) (by omega) (by omega)
    have hb2 : xBs (V 0 0) (fun c => xOk V c i) v := ⟨hb.1, fun h a b => by rw [hb.2 h a b]; show _ = (_ && xOk V h i); rw [← xop_0]⟩
    have vp := xBs_pos hb2 (by omega)
    have pc := xBs_pc hb2 hN.1 (by omega)
    rw [fQ_busy_L36, xam]
    rw [E.1.2.1, if_pos (by omega), ev, xB_s, sizeOf_s m vp.1 (by omega), xB_s, xw32_id (x := (i : Int) + 1) (by omega) (by omega), pc]
    show (if most < xon V i then _ else _) = _
    by_cases e : most < xon V i
    · rw [if_pos e, if_pos e]
      exact busyQ_L W E D n g (i + 1) _ _ (by omega) (by omega)
    · rw [if_neg e, if_neg e]
      exact busyQ_L W E D n g (i + 1) _ _ (by omega) (by omega)
theorem call_45 {M : xM} (S : Sim M) (x : Int) : xC1 (fD_busy 1 x M) (fQ_busy 310 x M) M := by
  obtain ⟨V, hv, W, Q, K, Q0, L⟩ := opn S
  have hH := W.1.2.1
  unfold fD_busy fQ_busy
  rw [stands_s, qPrison_s Q0 W, xPv_0 hv 0 (by decide) (by decide), fQ_in_s]
  simp only [if10]
  by_cases h1 : 0 < V 0 0
  · have p2 := W2p W h1
    rw [if_neg (not_not_intro h1), if_neg (not_not_intro h1)]
    by_cases h2 : 0 ≤ x ∧ x ≤ 1
    · rw [if_neg (show ¬ x < 0 by omega), if_neg (show ¬ 1 < x by omega), if_neg (not_not_intro h2)]
      refine xC1_Q (busyD_L (V := V) W.1 (xPv_0 hv 0 (by decide) (by decide)) (xPv_0 hv 1 (by decide) (by decide)) (L p2).1.1 (V 0 1).toNat 20001 0 0 0 (by omega) (by omega)) ?_
      refine xP_B (lays_s Q0 W p2) ?_
      rintro m ⟨k1, E, D, P⟩
      exact xP_of (busyQ_L (V := V) W.1 E D (V 0 1).toNat 20001 0 0 0 (by omega) (by omega)) ⟨rfl, xKp_tr K k1⟩
    · rw [if_pos h2]
      by_cases h3 : x < 0
      · rw [if_pos h3]; exact xC1_eq rfl rfl K
      · rw [if_neg h3, if_pos (show 1 < x by omega)]; exact xC1_eq rfl rfl K
  · rw [if_pos h1, if_pos h1]; exact xC1_eq rfl rfl K
/-! sleepers -/
theorem told_V {m V : xM} (Q : xQ0 m 310 0 V) (W : xWE V) {c h : Int} (c0 : 0 ≤ c) (c1 : c < 9) (h0 : 0 ≤ h) (h1 : h < 24) : fQ_sleepsTold 310 c h m = some (if xbt (V 5 c) h = true then 1 else 0) := by
  have e5 : m (310 + 7) 5 = V 0 6 := Q.1.1.2.2.2.2.1
  have r := W.2.2.2.2.2.2.2.1
  have qs := Q.1.2.2.1 c h c0 c1 h0 h1
  simp only [show ∀ k : Int, 24 * (0 : Int) + 3 * k = 3 * k from fun k => by omega] at qs
  apply xP_e
  refine xP_mono (told_s m 310 c h (by rw [e5]; exact r.1) (by rw [e5]; exact r.2)) ?_
  rintro v (⟨rfl, x⟩ | ⟨rfl, x⟩)
  · rw [e5] at x
    rw [if_pos (qs.mpr x)]
  · rw [e5] at x
    rw [if_neg (fun y => x (qs.mp y))]
def xas (V : xM) (h : Nat) : Int := (xct (fun c => xbt (V 5 c) h) (V 0 0).toNat : Nat)
theorem asleepQ_L {m V : xM} (Q : xQ0 m 310 0 V) (W : xWE V) {h : Int} (h0 : 0 ≤ h) (h1 : h < 24) : ∀ (n g i : Nat) (r : Int), n < g → (i : Int) + n = V 0 0 → 0 ≤ r → r ≤ i → fQ_asleepIn_L4 g 310 h r (i : Int) m = some (xsm (fun c => if xbt (V 5 c) h = true then 1 else 0) n i r)
  | _, 0, _, _, hg, _, _, _ => absurd hg (Nat.not_lt_zero _)
  | 0, g + 1, i, r, _, hi, _, _ => by
    unfold fQ_asleepIn_L4 xsm
    rw [show m (310 + 7) 0 = V 0 0 from Q.1.1.2.1, if_neg (by omega)]
  | n + 1, g + 1, i, r, hg, hi, r0, r1 => by
    have hN := W.1.1
    rw [fQ_asleepIn_L4, xsm]
    rw [show m (310 + 7) 0 = V 0 0 from Q.1.1.2.1, if_pos (by omega), told_V Q W (by omega) (by omega) h0 h1, xB_s, xw32_id (x := (i : Int) + 1) (by omega) (by omega), Int.add_zero, xw32_id (x := r) (by omega) (by omega), xw32_id (x := r + 1) (by omega) (by omega)]
    by_cases e : xbt (V 5 i) h = true
    · rw [if_neg (by rw [if_pos e]; decide), if_pos e]
      exact asleepQ_L Q W h0 h1 n g (i + 1) _ (by omega) (by omega) (by omega) (by omega)
    · rw [if_pos (by rw [if_neg e]), if_neg e, Int.add_zero]
      exact asleepQ_L Q W h0 h1 n g (i + 1) _ (by omega) (by omega) (by omega) (by omega)
theorem asleepIn_s {m V : xM} (Q : xQ0 m 310 0 V) (W : xWE V) {h : Nat} (h1 : (h : Int) < 24) : fQ_asleepIn 310 h m = some (xas V h) := by
  have hN := W.1.1
  have := asleepQ_L Q W (h := (h : Int)) (by omega) h1 (V 0 0).toNat 20001 0 0 (by omega) (by omega) (by decide) (by decide)
  rw [xsm_ct (p := fun c => xbt (V 5 c) h) (V 0 0).toNat (fun i _ => rfl), Int.zero_add] at this
  exact this
theorem asleepD_s {M V : xM} (hv : xPv M (1 + 15) V) (W : xWE V) {h : Nat} (h1 : (h : Int) < 24) : fD_howManyHave 1 ((1 + 15) + 5) h M = some (xas V h) := by
  have hN := W.1.1
  exact howMany_s (p := fun c => xbt (V 5 c) h) (xPv_0 hv 0 (by decide) (by decide)) hN.1 hN.2 (fun c hc => by
    rw [xPv_1 hv 5 (c : Int) (by decide) (by decide) (by omega) (by omega), fD_bit_s _ M (by omega) (by omega)])
theorem call_56 {M : xM} (S : Sim M) (h : Int) : xC1 (fD_asleep 1 h M) (fQ_asleep 310 h M) M := by
  obtain ⟨V, hv, W, Q, K, Q0, L⟩ := opn S
  have hH := W.1.2.1
  unfold fD_asleep fQ_asleep
  rw [hasHour_s, qHour_s Q0 W, xPv_0 hv 1 (by decide) (by decide)]
  simp only [if10]
  by_cases h1 : 0 ≤ h ∧ h < V 0 1
  · obtain ⟨k, rfl⟩ := Int.eq_ofNat_of_zero_le h1.1
    rw [if_neg (not_not_intro h1), if_neg (not_not_intro h1), asleepD_s hv W (by omega), xB_s, asleepIn_s Q0 W (by omega), xB_s]
    exact xC1_eq rfl rfl K
  · rw [if_pos h1, if_pos h1]; exact xC1_eq rfl rfl K
theorem sleepyD_L {M V : xM} (hv : xPv M (1 + 15) V) (W : xWE V) : ∀ (n g i : Nat) (best most : Int), n < g → (i : Int) + n = V 0 1 → fD_sleepiestHour_L6 g 1 most best (i : Int) M = some (xam (xas V) n i best most).1
  | _, 0, _, _, _, hg, _ => absurd hg (Nat.not_lt_zero _)
  | 0, g + 1, i, best, most, _, hi => by
    unfold fD_sleepiestHour_L6 xam
    rw [xPv_0 hv 1 (by decide) (by decide), if_neg (by omega)]
  | n + 1, g + 1, i, best, most, hg, hi => by
    have hH := W.1.2.1
    rw [fD_sleepiestHour_L6, xam]
    rw [xPv_0 hv 1 (by decide) (by decide), if_pos (by omega), asleepD_s hv W (by omega), xB_s, xw32_id (x := (i : Int) + 1) (by omega) (by omega)]
    by_cases e : most < xas V i
    · rw [if_pos e, if_pos e]
      exact sleepyD_L hv W n g (i + 1) _ _ (by omega) (by omega)
    · rw [if_neg e, if_neg e]
      exact sleepyD_L hv W n g (i + 1) _ _ (by omega) (by omega)
theorem sleepQ_L {m V : xM} {c x : Int} (Q : xQ0 m 310 0 V) (W : xWE V) (c0 : 0 ≤ c) (c1 : c < 9) : ∀ (n g i : Nat) (a best most : Int), n < g → (i : Int) + n = V 0 1 → 0 ≤ a → a ≤ i → fQ_sleep_L38 g 310 c x a best most (i : Int) m = some (if x = 0 then xsm (fun h => if xbt (V 5 c) h = true then 1 else 0) n i a else (xam (xas V) n i best most).1, m)
  | _, 0, _, _, _, _, hg, _, _, _ => absurd hg (Nat.not_lt_zero _)
  | 0, g + 1, i, a, best, most, _, hi, _, _ => by
    unfold fQ_sleep_L38 xam xsm
    rw [show m (310 + 7) 1 = V 0 1 from Q.1.1.2.2.1, if_neg (by omega)]
  | n + 1, g + 1, i, a, best, most, hg, hi, a0, a1 => by
    have hH := W.1.2.1
    have next : ∀ y : Int, 0 ≤ y → y ≤ 1 → y = (if xbt (V 5 c) i = true then 1 else 0) → fQ_sleep_L65 (fQ_sleep_L38 g) 310 c x best most (i : Int) y a m = some (if x = 0 then xsm (fun h => if xbt (V 5 c) h = true then 1 else 0) (n + 1) i a else (xam (xas V) (n + 1) i best most).1, m) := by
      intro y y0 y1 hy
      unfold fQ_sleep_L65
      rw [asleepIn_s Q W (by omega), xB_s, xw32_id (x := (i : Int) + 1) (by omega) (by omega), xw32_id (x := a + y) (by omega) (by omega), xsm, xam, ← hy]
      by_cases e : most < xas V i
      · rw [if_pos e, if_pos e]
        exact sleepQ_L Q W c0 c1 n g (i + 1) _ _ _ (by omega) (by omega) (by omega) (by omega)
      · rw [if_neg e, if_neg e]
        exact sleepQ_L Q W c0 c1 n g (i + 1) _ _ _ (by omega) (by omega) (by omega) (by omega)
    rw [fQ_sleep_L38, show m (310 + 7) 1 = V 0 1 from Q.1.1.2.2.1, if_pos (by omega), told_V Q W c0 c1 (by omega) (by omega), xB_s]
    by_cases e : xbt (V 5 c) i = true
    · rw [if_neg (by rw [if_pos e]; decide)]
      exact next 1 (by decide) (by decide) (by rw [if_pos e])
    · rw [if_pos (by rw [if_neg e])]
      exact next 0 (by decide) (by decide) (by rw [if_neg e])
theorem call_55 {M : xM} (S : Sim M) (c x : Int) : xC1 (fD_sleep 1 c x M) (fQ_sleep 310 c x M) M := by
  obtain ⟨V, hv, W, Q, K, Q0, L⟩ := opn S
  have hN := W.1.1
  have hH := W.1.2.1
  unfold fD_sleep fQ_sleep
  rw [hasCell_s, qCell_s Q0 W, xPv_0 hv 0 (by decide) (by decide), fQ_in_s]
  simp only [if10]
  by_cases h1 : 0 ≤ c ∧ c < V 0 0
  · rw [if_neg (not_not_intro h1), if_neg (not_not_intro h1)]
    by_cases h2 : 0 ≤ x ∧ x ≤ 1
    · have qq := sleepQ_L (x := x) Q0 W h1.1 (by omega) (V 0 1).toNat 20001 0 0 0 0 (by omega) (by omega) (by decide) (by decide)
      rw [if_neg (show ¬ x < 0 by omega), if_neg (show ¬ 1 < x by omega), if_neg (not_not_intro h2)]
      refine xC1_eq (r := if x = 0 then xsm (fun h => if xbt (V 5 c) h = true then 1 else 0) (V 0 1).toNat 0 0 else (xam (xas V) (V 0 1).toNat 0 0 0).1) ?_ qq K
      by_cases e : x = 0
      · have B : xBs (V 0 1) (fun h => xbt (V 5 c) h) (V 5 c) := ⟨(W.1.2.2.2.2.1 c h1.1 (by omega)).2.2.2.2, fun h h0 h3 => by
          show xbt (V 5 c) h = (decide (h < V 0 1) && xbt (V 5 c) h)
          cases hb : xbt (V 5 c) h
          · rw [Bool.and_false]
          · rw [decide_eq_true (W.2.2.2.2.2.2.2.2.2.2.2.1 c h h1.1 (by omega) h0 h3 hb)]; rfl⟩
        have vp := xBs_pos B hH.2
        rw [if_pos e, if_pos e, xA_p (by omega), xPv_1 hv 5 c (by decide) (by decide) h1.1 (by omega), JI_bc (by omega), xBs_pc B hH.1 (by omega), xsm_ct (p := fun h => xbt (V 5 c) h) _ (fun i _ => rfl), Int.zero_add]
      · rw [if_neg e, if_neg e]
        unfold fD_sleepiestHour
        have sd := sleepyD_L hv W (V 0 1).toNat 20001 0 0 0 (by omega) (by omega)
        rw [show ((0 : Nat) : Int) = 0 from rfl] at sd
        rw [sd, xB_s]
    · rw [if_pos h2]
      by_cases h3 : x < 0
      · rw [if_pos h3]; exact xC1_eq rfl rfl K
      · rw [if_neg h3, if_pos (show 1 < x by omega)]; exact xC1_eq rfl rfl K
  · rw [if_pos h1, if_pos h1]; exact xC1_eq rfl rfl K
end
