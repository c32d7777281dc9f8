/-! what if, second part: courted, loyalty, soup, gift -/
noncomputable section
theorem xMx_ex {P : Int → Prop} (h0 : P 0) : ∀ k : Nat, (∀ s : Int, 0 ≤ s → s < 512 → P s → xpc s ≤ k) → ∃ r, xMx P r
  | 0, h => ⟨0, h, Or.inr ⟨0, by decide, by decide, h0, xpc_0.symm⟩⟩
  | k + 1, h => by
    by_cases e : ∃ s : Int, 0 ≤ s ∧ s < 512 ∧ P s ∧ xpc s = ((k + 1 : Nat) : Int)
    · obtain ⟨s, a, b, c, d⟩ := e
      exact ⟨((k + 1 : Nat) : Int), h, Or.inr ⟨s, a, b, c, d.symm⟩⟩
    · refine xMx_ex h0 k (fun s a b c => ?_)
      have := h s a b c
      have : xpc s ≠ ((k + 1 : Nat) : Int) := fun x => e ⟨s, a, b, c, x⟩
      omega
theorem xmm_sp (V : xM) : xMx (xcan V (V 0 1).toNat) (xmm V) := by
  obtain ⟨r, hr⟩ := xMx_ex (xcan_0 V (V 0 1).toNat) 32 (fun s _ _ _ => (xpc_rg s).2)
  rw [xmm_eq hr]
  exact hr
theorem xmm_b (V : xM) : 0 ≤ xmm V ∧ xmm V ≤ 32 := by
  have h := xmm_sp V
  have a := h.1 0 (by decide) (by decide) (xcan_0 V _)
  have b := xMx_rg h
  rw [xpc_0] at a
  omega
theorem xcan_mono {U V : xM} (hN : U 0 0 = V 0 0) (ho : ∀ c h s : Int, 0 ≤ c → c < V 0 0 → xop U c h s = true → xop V c h s = true) : ∀ (h : Nat) (s : Int), xcan U h s → xcan V h s
  | 0, _, e => e
  | h + 1, s, e => by
    rcases e with e | ⟨c, s', c0, c1, e1, e2, e3⟩
    · exact Or.inl (xcan_mono hN ho h s e)
    · exact Or.inr ⟨c, s', c0, by omega, xcan_mono hN ho h s' e1, ho c h s' c0 (by omega) e2, e3⟩
theorem xmm_le {U V : xM} (w : xWF V) (hN : U 0 0 = V 0 0) (hH : U 0 1 = V 0 1) (ho : ∀ c h s : Int, 0 ≤ c → c < V 0 0 → xop U c h s = true → xop V c h s = true) : xmm U ≤ xmm V := by
  have a := xmm_sp U
  have b := xmm_sp V
  rw [hH] at a
  rcases a.2 with ⟨x, -⟩ | ⟨s, s0, s1, s2, x⟩
  · have := xmm_b V; omega
  · have := b.1 s s0 s1 (xcan_mono hN ho _ s s2)
    omega
theorem xop_T {U V : xM} (w : xWF V) (hN : U 0 0 = V 0 0) (hR : U 0 3 = V 0 3) (hL : U 0 4 = V 0 4) (ht : ∀ c s h : Int, 0 ≤ c → c < V 0 0 → (s = 0 ∨ s = 1) → xT U c s h = true → xT V c s h = true) (c h s : Int) (c0 : 0 ≤ c) (c1 : c < V 0 0) (e : xop U c h s = true) : xop V c h s = true := by
  have nb : ∀ c s : Int, xnv U c s = xnv V c s := fun c s => by unfold xnv; rw [hN, hR]
  have br : ∀ c d : Int, xBr U c d = xBr V c d := fun c d => by unfold xBr xN2 xLy; rw [nb, nb, hL]
  obtain ⟨a, b⟩ := xop_iff.mp e
  refine xop_iff.mpr ⟨?_, fun d d0 d1 hd => by rw [← br]; exact b d d0 d1 hd⟩
  unfold xOk at a ⊢
  rw [nb, nb, Bool.and_eq_true, Bool.or_eq_true, Bool.or_eq_true, decide_eq_true_iff, decide_eq_true_iff] at a
  rw [Bool.and_eq_true, Bool.or_eq_true, Bool.or_eq_true, decide_eq_true_iff, decide_eq_true_iff]
  refine ⟨?_, ?_⟩
  · rcases a.1 with x | x
    · exact Or.inl x
    · by_cases y : xnv V c 0 = -1
      · exact Or.inl y
      · have r := xnv_rg c0 c1 y
        exact Or.inr (ht _ _ _ r.1 r.2 (Or.inr rfl) x)
  · rcases a.2 with x | x
    · exact Or.inl x
    · by_cases y : xnv V c 1 = -1
      · exact Or.inl y
      · have r := xnv_rg c0 c1 y
        exact Or.inr (ht _ _ _ r.1 r.2 (Or.inl rfl) x)
theorem deaf_T {V : xM} {c : Int} (d s h : Int) (e : xT (xwr V 1 c 3) d s h = true) : xT V d s h = true := by
  have r0 := fun i => xwr_r (V := V) (a := 1) (c := c) (v := 3) 0 i (by decide)
  have r2 := fun i => xwr_r (V := V) (a := 1) (c := c) (v := 3) 2 i (by decide)
  have r3 := fun i => xwr_r (V := V) (a := 1) (c := c) (v := 3) 3 i (by decide)
  have r5 := fun i => xwr_r (V := V) (a := 1) (c := c) (v := 3) 5 i (by decide)
  have lk : ∀ b : Int, xlk (xwr V 1 c 3) b h = xlk V b h := by
    intro b
    have k : ∀ n : Nat, xsp (xwr V 1 c 3) b h n = xsp V b h n := by
      intro n
      induction n with
      | zero => rfl
      | succ n ih => unfold xsp; rw [ih, xwr_r 7 _ (by decide), xwr_r 8 _ (by decide), xwr_r 9 _ (by decide)]
    unfold xlk
    rw [k, xwr_r 6 _ (by decide), r0]
  have e := of_decide_eq_true e
  apply decide_eq_true
  unfold xwo xwy xhis at e ⊢
  simp only [r0, r2, r3, r5, lk] at e
  by_cases x : d = c
  · rw [x, xwr_s] at e
    (repeat' split at e) <;> first | omega | (exfalso; simp_all; done) | simp_all
  · rw [xwr_n _ (fun y => x y.2)] at e
    exact e
theorem harm_0 {V : xM} (w : xWF V) (c : Int) : 0 ≤ xmm V - xmm (xwr V 1 c 3) := by
  have := xmm_le (U := xwr V 1 c 3) w (xwr_r _ _ (by decide)) (xwr_r _ _ (by decide)) (xop_T w (xwr_r _ _ (by decide)) (xwr_r _ _ (by decide)) (xwr_r _ _ (by decide)) (fun d s h _ _ _ e => deaf_T d s h e))
  omega
theorem harmD' {m V : xM} {c : Int} (w : xWE V) (h : xDs m V) (hp : 2 ≤ V 0 0) (c0 : 0 ≤ c) (c1 : c < V 0 0) : xP (fD_harmOf 1 c m) (fun x => x.1 = xmm V - xmm (xwr V 1 c 3) ∧ xKp m x.2) := by
  have a := xmm_b V
  have b := xmm_b (xwr V 1 c 3)
  exact harmD w h hp c0 c1 ⟨by omega, a.2⟩ ⟨by omega, b.2⟩
def xhf (V : xM) (c : Nat) : Int := xmm V - xmm (xwr V 1 (c : Int) 3)
theorem courtD_L {M V : xM} (w : xWE V) (hp : 2 ≤ V 0 0) : ∀ (n g i : Nat) (worst first : Int) (m : xM), n < g → (i : Int) + n = V 0 0 → xDs m V → xKp M m → xP (fD_courted_L19 g 1 worst first (i : Int) m) (fun x => x.1 = (xam (xhf V) n i first worst).1 ∧ xKp M x.2)
  | _, 0, _, _, _, _, hg, _, _, _ => absurd hg (Nat.not_lt_zero _)
  | 0, g + 1, i, worst, first, m, _, hi, hd, hk => by
    unfold fD_courted_L19 xam
    rw [xPv_0 hd.1 0 (by decide) (by decide), if_neg (by omega)]
    exact xP_some ⟨rfl, hk⟩
  | n + 1, g + 1, i, worst, first, m, hg, hi, hd, hk => by
    have hN := w.1.1
    rw [fD_courted_L19, xam]
    rw [xPv_0 hd.1 0 (by decide) (by decide), if_pos (show (i : Int) < V 0 0 by omega)]
    refine xP_B (harmD' w hd hp (by omega) (by omega)) ?_
    rintro ⟨v, m2⟩ ⟨e, k⟩
    have e : v = xhf V i := e
    show xP (if worst < v then _ else _) _
    rw [e, xw32_id (x := (i : Int) + 1) (by omega) (by omega)]
    by_cases c : worst < xhf V i
    · rw [if_pos c, if_pos c]
      exact courtD_L w hp n g (i + 1) _ _ m2 (by omega) (by omega) (xDs_kp w hd k) (xKp_tr hk k)
    · rw [if_neg c, if_neg c]
      exact courtD_L w hp n g (i + 1) _ _ m2 (by omega) (by omega) (xDs_kp w hd k) (xKp_tr hk k)
theorem courtQ_L {M V : xM} (w : xWE V) (hp : 2 ≤ V 0 0) : ∀ (n g i : Nat) (best most : Int) (m : xM), n < g → (i : Int) + n = V 0 0 → xQ0 m 310 0 V → xKp M m → xP (fQ_courted_L25 g 310 best most (i : Int) m) (fun x => x.1 = (xam (xhf V) n i best most).1 ∧ xKp M x.2)
  | _, 0, _, _, _, _, hg, _, _, _ => absurd hg (Nat.not_lt_zero _)
  | 0, g + 1, i, best, most, m, _, hi, hd, hk => by
    unfold fQ_courted_L25 xam
    rw [show m (310 + 7) 0 = V 0 0 from hd.1.1.2.1, if_neg (by omega)]
    exact xP_some ⟨rfl, hk⟩
  | n + 1, g + 1, i, best, most, m, hg, hi, hd, hk => by
    have hN := w.1.1
    rw [fQ_courted_L25, xam]
    rw [show m (310 + 7) 0 = V 0 0 from hd.1.1.2.1, if_pos (show (i : Int) < V 0 0 by omega)]
    refine xP_B (harmQ w hd hp (by omega) (by omega)) ?_
    rintro ⟨v, m2⟩ ⟨e, k, -⟩
    have e : v = xhf V i := e
    show xP (if most < v then _ else _) _
    rw [e, xw32_id (x := (i : Int) + 1) (by omega) (by omega)]
    by_cases c : most < xhf V i
    · rw [if_pos c, if_pos c]
      exact courtQ_L w hp n g (i + 1) _ _ m2 (by omega) (by omega) (xQ0_kp hd k) (xKp_tr hk k)
    · rw [if_neg c, if_neg c]
      exact courtQ_L w hp n g (i + 1) _ _ m2 (by omega) (by omega) (xQ0_kp hd k) (xKp_tr hk k)
theorem call_37 {M : xM} (S : Sim M) : xC2 (fD_courted 1 M) (fQ_courted 310) M := by
  obtain ⟨V, hv, W, Q, L⟩ := opn2 S
  have hN := W.1.1
  unfold fD_courted
  rw [stands_s, xPv_0 hv 0 (by decide) (by decide)]
  simp only [if10]
  by_cases h1 : 0 < V 0 0
  · have p2 := W2p W h1
    rw [if_neg (not_not_intro h1)]
    refine xC2_of (A := fun r => r = (xam (xhf V) (V 0 0).toNat 0 0 0).1) ?_ (fun m k => ?_) (fun r s a b => a.trans b.symm)
    · exact courtD_L (M := M) W p2 (V 0 0).toNat 20001 0 0 0 M (by omega) (by omega) (L p2).1 (xKp_rfl M)
    · obtain ⟨k2, Q2⟩ := Q m k
      unfold fQ_courted
      rw [qPrison_s Q2 W]
      simp only [if10]
      rw [if_neg (not_not_intro h1)]
      refine xP_B (harmQ W Q2 p2 (c := 0) (by decide) h1) ?_
      rintro ⟨v, m2⟩ ⟨e, k3, -⟩
      have e : v = xhf V 0 := e
      have z := harm_0 W.1 ((0 : Nat) : Int)
      have st : xam (xhf V) (V 0 0).toNat 0 0 0 = xam (xhf V) ((V 0 0).toNat - 1) 1 0 v := by
        rw [show (V 0 0).toNat = ((V 0 0).toNat - 1) + 1 by omega, xam, e, show (V 0 0).toNat - 1 + 1 - 1 = (V 0 0).toNat - 1 by omega]
        by_cases c : 0 < xhf V 0
        · rw [if_pos c]; rfl
        · rw [if_neg c]
          have : xhf V 0 = 0 := by unfold xhf at c ⊢; omega
          rw [this]
      rw [st]
      exact courtQ_L (M := m) W p2 ((V 0 0).toNat - 1) 20001 1 0 v m2 (by omega) (by omega) (xQ0_kp Q2 k3) (xKp_tr k2 k3)
  · rw [if_pos h1]
    refine xC2_n (k := fun m => xwr m 310 0 0) (fun m k => ?_)
    obtain ⟨k2, Q2⟩ := Q m k
    unfold fQ_courted
    rw [qPrison_s Q2 W]
    simp only [if10]
    rw [if_pos h1]
    exact ⟨rfl, k2⟩
/-! loyal -/
theorem WF_04 {V : xM} (w : xWF V) {v : Int} (hv : x32 v) : xWF (xwr V 0 4 v) := by
  have e1 := fun i => xwr_r (V := V) (a := 0) (c := 4) (v := v) 1 i (by decide)
  have e2 := fun i => xwr_r (V := V) (a := 0) (c := 4) (v := v) 2 i (by decide)
  have e3 := fun i => xwr_r (V := V) (a := 0) (c := 4) (v := v) 3 i (by decide)
  have e5 := fun i => xwr_r (V := V) (a := 0) (c := 4) (v := v) 5 i (by decide)
  have e6 := fun i => xwr_r (V := V) (a := 0) (c := 4) (v := v) 6 i (by decide)
  have e8 := fun i => xwr_r (V := V) (a := 0) (c := 4) (v := v) 8 i (by decide)
  have e10 := fun i => xwr_r (V := V) (a := 0) (c := 4) (v := v) 10 i (by decide)
  have e0 : ∀ i : Int, i ≠ 4 → xwr V 0 4 v 0 i = V 0 i := fun i hi => xwr_n _ (fun x => hi x.2)
  unfold xWF at w ⊢
  simp only [e1, e2, e3, e5, e6, e8, e10, e0 0 (by decide), e0 1 (by decide), e0 3 (by decide), e0 7 (by decide), e0 5 (by decide), xwr_s]
  exact ⟨w.1, w.2.1, w.2.2.1, w.2.2.2.1, w.2.2.2.2.1, w.2.2.2.2.2.1, w.2.2.2.2.2.2.1, hv, w.2.2.2.2.2.2.2.2⟩
theorem loyalE {m V : xM} {c : Int} (Q : xQ0 m 310 0 V) (w : xWE V) (hp : 2 ≤ V 0 0) (P : xPl m 310) (c0 : 0 ≤ c) (c1 : c < V 0 0) : xEf (xwr m 310 28 (xshl 1 c)) 310 (xwr V 0 4 (xor32 (V 0 4) (xshl 1 c))) := by
  have hN := w.1.1
  obtain ⟨p1, p2, p3, p4, p5, p6, p7, p8, p9⟩ := P
  have f : ∀ i : Int, i ≠ 28 → (xwr m 310 28 (xshl 1 c)) 310 i = m 310 i := fun i hi => xwr_n _ (fun x => hi x.2)
  have e0 : ∀ i : Int, i ≠ 4 → (xwr V 0 4 (xor32 (V 0 4) (xshl 1 c))) 0 i = V 0 i := fun i hi => xwr_n _ (fun x => hi x.2)
  have Q' : xQd (xwr m 310 28 (xshl 1 c)) 310 0 V := xQd_go Q.1 (fun a a0 a1 => xwr_a _ (by omega))
  refine xEf_mk Q' w hp (by rw [xwr_a _ (by decide), e0 3 (by decide)]; exact Q.2) (by rw [e0 3 (by decide)]; exact w.1.2.2.1) (e0 0 (by decide)) (e0 1 (by decide)) (fun d h _ _ _ _ => ?_) (fun d d0 d1 => ?_) (fun b _ _ => ?_) (fun k _ _ => ⟨xwr_r _ _ (by decide), xwr_r _ _ (by decide), xwr_r _ _ (by decide)⟩) (Or.inl ⟨by rw [f _ (by decide)]; exact p8, e0 7 (by decide)⟩)
  · rw [xwr_r _ _ (by decide), f 23 (by decide), f 35 (by decide), p1, p9]; simp
  · rw [e0 0 (by decide)] at d1
    rw [xwr_s, xwr_s, f 25 (by decide), f 26 (by decide), f 27 (by decide), xwr_r 1 d (by decide), xwr_r 2 d (by decide), xwr_r 3 d (by decide), e0 5 (by decide), p3, p4, p5, xbt_0, xbt_or]
    simp
  · rw [f 24 (by decide), p2, xwr_r _ _ (by decide)]; simp
theorem call_38 {M : xM} (S : Sim M) (c : Int) : xC2 (fD_loyalty 1 c M) (fQ_loyalty 310 c) M := by
  obtain ⟨V, hv, W, Q, L⟩ := opn2 S
  have hN := W.1.1
  have b1 := xmm_b V
  have b2 := xmm_b (xwr V 0 4 (xor32 (V 0 4) (xshl 1 c)))
  unfold fD_loyalty
  rw [hasCell_s, xPv_0 hv 0 (by decide) (by decide)]
  simp only [if10]
  by_cases h1 : 0 ≤ c ∧ c < V 0 0
  · have p2 := W2 W h1.1 h1.2
    rw [if_neg (not_not_intro h1)]
    refine xC2_of (A := fun r => r = xmm (xwr V 0 4 (xor32 (V 0 4) (xshl 1 c))) - xmm V) ?_ (fun m k => ?_) (fun r s a b => a.trans b.symm)
    · refine xP_B (copyD W (L p2).1) ?_
      rintro k ⟨f, v⟩
      rw [xPv_0 v 4 (by decide) (by decide)]
      have f2 : xF 27 37 M (xwr k (1 + 26) 4 (xor32 (V 0 4) (xshl 1 c))) := xwr_F f (by decide) (by decide)
      refine xP_B (draftD (WF_04 W.1 (xor_in _ _)) (xPv_w0 v 4 _)) ?_
      rintro ⟨u, k2⟩ ⟨e, f3⟩
      have e : u = xmm (xwr V 0 4 (xor32 (V 0 4) (xshl 1 c))) := e
      have kk := xKp_tr (kp_draft f2) (kp_trial f3)
      show xP (xB (fD_mostNow 1 k2) _) _
      rw [nowD W (xDs_kp W (L p2).1 kk).2, xB_s]
      refine xP_some ⟨?_, kk⟩
      show xw32 (u - xmm V) = _
      rw [e, xw32_id (by omega) (by omega)]
    · obtain ⟨k2, Q2⟩ := Q m k
      unfold fQ_loyalty
      rw [qCell_s Q2 W]
      simp only [if10]
      rw [if_neg (not_not_intro h1)]
      refine xP_B (nowQ Q2 W p2) ?_
      rintro ⟨v, m1⟩ ⟨e, r, kk, P⟩
      refine xP_B (ifQ (loyalE (xQ0_kp Q2 kk) W p2 P h1.1 h1.2) (WF_04 W.1 (xor_in _ _)) (by rw [xwr_n _ (by decide)]; exact P.2.2.2.2.2.2.1)) ?_
      rintro ⟨u, m2⟩ ⟨e2, r2, f⟩
      have e : v = xmm V := e
      have e2 : u = xmm (xwr V 0 4 (xor32 (V 0 4) (xshl 1 c))) := e2
      refine xP_some ⟨?_, xKp_tr k2 (xKp_tr (xKp_w kk (by decide) (by decide) (by decide)) (xFq_kp f))⟩
      show xw32 (u - v) = _
      rw [e, e2, xw32_id (by omega) (by omega)]
  · rw [if_pos h1]
    refine xC2_n (k := fun m => xwr m 310 0 0) (fun m k => ?_)
    obtain ⟨k2, Q2⟩ := Q m k
    unfold fQ_loyalty
    rw [qCell_s Q2 W]
    simp only [if10]
    rw [if_pos h1]
    exact ⟨rfl, k2⟩
/-! soup -/
def xSo (V : xM) (b n h : Int) : xM := xwr (xwr (xwr (xwr V 7 (V 0 7) b) 8 (V 0 7) n) 9 (V 0 7) h) 0 7 (V 0 7 + 1)
theorem addSoup_s {m V : xM} {p b n h : Int} (hv : xPv m p V) (S0 : 0 ≤ V 0 7) (S8 : V 0 7 ≤ 8) : fPrison_addSoup p b n h m = some (xwr (xwr (xwr (xwr m (p + 7) (V 0 7) b) (p + 8) (V 0 7) n) (p + 9) (V 0 7) h) p 7 (V 0 7 + 1)) := by
  have e : m p 7 = V 0 7 := xPv_0 hv 7 (by decide) (by decide)
  have h7 : ∀ (A : xM) (i v : Int), xwr A (p + 7) i v p = A p := fun A i v => xwr_a A (by omega)
  have h8 : ∀ (A : xM) (i v : Int), xwr A (p + 8) i v p = A p := fun A i v => xwr_a A (by omega)
  have h9 : ∀ (A : xM) (i v : Int), xwr A (p + 9) i v p = A p := fun A i v => xwr_a A (by omega)
  unfold fPrison_addSoup
  simp only [h7, h8, h9, e]
  rw [if_neg (by omega), xA_p (by omega), xA_p (by omega), xA_p (by omega), xw32_id (by omega) (by omega)]
theorem So_v {m V : xM} {p b n h : Int} (hv : xPv m p V) : xPv (xwr (xwr (xwr (xwr m (p + 7) (V 0 7) b) (p + 8) (V 0 7) n) (p + 9) (V 0 7) h) p 7 (V 0 7 + 1)) p (xSo V b n h) := xPv_w0 (xPv_w (xPv_w (xPv_w hv 7 _ _) 8 _ _) 9 _ _) 7 _
theorem So_at {V : xM} {b n h : Int} : (∀ i : Int, i ≠ 7 → xSo V b n h 0 i = V 0 i) ∧ xSo V b n h 0 7 = V 0 7 + 1 ∧ (∀ a i : Int, 1 ≤ a → a ≤ 6 → xSo V b n h a i = V a i) ∧ (∀ i : Int, xSo V b n h 10 i = V 10 i) ∧ (∀ i : Int, i ≠ V 0 7 → xSo V b n h 7 i = V 7 i ∧ xSo V b n h 8 i = V 8 i ∧ xSo V b n h 9 i = V 9 i) ∧ (xSo V b n h 7 (V 0 7) = b ∧ xSo V b n h 8 (V 0 7) = n ∧ xSo V b n h 9 (V 0 7) = h) := by
  unfold xSo
  refine ⟨fun i hi => ?_, xwr_s _ _ _ _, fun a i a0 a1 => ?_, fun i => ?_, fun i hi => ⟨?_, ?_, ?_⟩, ?_, ?_, ?_⟩
  all_goals simp only [xwr_at]
  · rw [if_neg (by omega), if_neg (by omega), if_neg (by omega), if_neg (by omega)]
  · rw [if_neg (by omega), if_neg (by omega), if_neg (by omega), if_neg (by omega)]
  · rw [if_neg (by omega), if_neg (by omega), if_neg (by omega), if_neg (by omega)]
  · rw [if_neg (by omega), if_neg (by omega), if_neg (by omega), if_neg (by omega)]
  · rw [if_neg (by omega), if_neg (by omega), if_neg (by omega), if_neg (by omega)]
  · rw [if_neg (by omega), if_neg (by omega), if_neg (by omega), if_neg (by omega)]
  · rw [if_neg (by omega), if_neg (by omega), if_neg (by omega), if_pos (by simp)]
  · rw [if_neg (by omega), if_neg (by omega), if_pos (by simp)]
  · rw [if_neg (by omega), if_pos (by simp)]
theorem WF_So {V : xM} (w : xWF V) {b n h : Int} (S8 : V 0 7 ≤ 8) (n0 : 0 ≤ n) (n1 : n ≤ 9) : xWF (xSo V b n h) := by
  obtain ⟨a0, a7, a1, a10, an, as⟩ := So_at (V := V) (b := b) (n := n) (h := h)
  have e1 := fun i => a1 1 i (by decide) (by decide)
  have e2 := fun i => a1 2 i (by decide) (by decide)
  have e3 := fun i => a1 3 i (by decide) (by decide)
  have e5 := fun i => a1 5 i (by decide) (by decide)
  have e6 := fun i => a1 6 i (by decide) (by decide)
  unfold xWF at w ⊢
  simp only [e1, e2, e3, e5, e6, a10, a0 0 (by decide), a0 1 (by decide), a0 3 (by decide), a0 4 (by decide), a0 5 (by decide), a7]
  refine ⟨w.1, w.2.1, w.2.2.1, by omega, w.2.2.2.2.1, w.2.2.2.2.2.1, fun i i0 i1 => ?_, w.2.2.2.2.2.2.2⟩
  by_cases e : i = V 0 7
  · rw [e, as.2.1]; exact ⟨n0, n1⟩
  · rw [(an i e).2.1]; exact w.2.2.2.2.2.2.1 i i0 i1
theorem soupE {m V : xM} {c s n h : Int} (Q : xQ0 m 310 0 V) (w : xWE V) (hp : 2 ≤ V 0 0) (P : xPl m 310) (hs : s = 0 ∨ s = 1) (n0 : 0 ≤ n) (n1 : n ≤ 9) : xEf (xwr (xwr (xwr (xwr m 310 30 c) 310 31 s) 310 32 n) 310 33 h) 310 (xSo V (2 * c + s) n h) := by
  have hN := w.1.1
  obtain ⟨a0, a7, a1, a10, an, as⟩ := So_at (V := V) (b := 2 * c + s) (n := n) (h := h)
  obtain ⟨p1, p2, p3, p4, p5, p6, p7, p8, p9⟩ := P
  obtain ⟨k, hk⟩ : ∃ k : xM, k = xwr (xwr (xwr (xwr m 310 30 c) 310 31 s) 310 32 n) 310 33 h := ⟨_, rfl⟩
  have f : ∀ i : Int, i < 30 ∨ 33 < i → k 310 i = m 310 i := fun i hi => by rw [hk]; simp only [xwr_at]; rw [if_neg (by omega), if_neg (by omega), if_neg (by omega), if_neg (by omega)]
  have g : ∀ a : Int, a ≠ 310 → k a = m a := fun a ha => by rw [hk, xwr_a _ ha, xwr_a _ ha, xwr_a _ ha, xwr_a _ ha]
  have g30 : k 310 30 = c := by rw [hk]; simp [xwr_at]
  have g31 : k 310 31 = s := by rw [hk]; simp [xwr_at]
  have g32 : k 310 32 = n := by rw [hk]; simp [xwr_at]
  have g33 : k 310 33 = h := by rw [hk]; simp [xwr_at]
  rw [← hk]
  clear hk
  have Q' : xQd k 310 0 V := xQd_go Q.1 (fun a _ _ => g a (by omega))
  refine xEf_mk Q' w hp (by rw [g _ (by decide), a0 3 (by decide)]; exact Q.2) (by rw [a0 3 (by decide)]; exact w.1.2.2.1) (a0 0 (by decide)) (a0 1 (by decide)) (fun d h _ _ _ _ => ?_) (fun d d0 d1 => ?_) (fun b _ _ => ?_) (fun j j0 j1 => an j (by omega)) (Or.inr ⟨a7, by rw [g30, g31]; exact as.1, by rw [g32]; exact as.2.1, by rw [g33]; exact as.2.2, by rw [g31]; exact hs, by rw [g32]; exact n0, by rw [g32]; exact n1⟩)
  · rw [a1 5 _ (by decide) (by decide), f 23 (by omega), f 35 (by omega), p1, p9]; simp
  · rw [f 25 (by omega), f 26 (by omega), f 27 (by omega), f 28 (by omega), a1 1 _ (by decide) (by decide), a1 2 _ (by decide) (by decide), a1 3 _ (by decide) (by decide), a0 4 (by decide), a0 5 (by decide), p3, p4, p5, p6, xbt_0]
    simp
  · rw [f 24 (by omega), p2, a1 6 _ (by decide) (by decide)]; simp
theorem gainD {m V : xM} {b n h : Int} (w : xWE V) (hd : xDs m V) (n0 : 0 ≤ n) (n1 : n ≤ 9) : xP (fD_gainBySoup 1 b n h m) (fun x => x.1 = xmm (xSo V b n h) - xmm V ∧ xKp m x.2) := by
  have b1 := xmm_b V
  have b2 := xmm_b (xSo V b n h)
  have S0 := w.1.2.2.2.1
  have S8 := w.2.2.2.2.2.2.2.2.1
  unfold fD_gainBySoup
  refine xP_B (copyD w hd) ?_
  rintro k ⟨f, v⟩
  rw [addSoup_s v S0.1 S8, xB_s]
  have f2 : xF 27 37 m (xwr (xwr (xwr (xwr k (1 + 26 + 7) (V 0 7) b) (1 + 26 + 8) (V 0 7) n) (1 + 26 + 9) (V 0 7) h) (1 + 26) 7 (V 0 7 + 1)) := xwr_F (xwr_F (xwr_F (xwr_F f (by decide) (by decide)) (by decide) (by decide)) (by decide) (by decide)) (by decide) (by decide)
  refine xP_B (draftD (WF_So w.1 S8 n0 n1) (So_v v)) ?_
  rintro ⟨u, k2⟩ ⟨e, f3⟩
  have e : u = xmm (xSo V b n h) := e
  have kk := xKp_tr (kp_draft f2) (kp_trial f3)
  show xP (xB (fD_mostNow 1 k2) _) _
  rw [nowD w (xDs_kp w hd kk).2, xB_s]
  refine xP_some ⟨?_, kk⟩
  show xw32 (u - xmm V) = _
  rw [e, xw32_id (by omega) (by omega)]
theorem gainQ {m V : xM} {c s n h : Int} (w : xWE V) (Q : xQ0 m 310 0 V) (hp : 2 ≤ V 0 0) (hs : s = 0 ∨ s = 1) (n0 : 0 ≤ n) (n1 : n ≤ 9) : xP (fQ_soupOf 310 c s n h m) (fun x => x.1 = xmm (xSo V (2 * c + s) n h) - xmm V ∧ xKp m x.2) := by
  have b1 := xmm_b V
  have b2 := xmm_b (xSo V (2 * c + s) n h)
  have S8 := w.2.2.2.2.2.2.2.2.1
  unfold fQ_soupOf
  refine xP_B (nowQ Q w hp) ?_
  rintro ⟨v, m1⟩ ⟨e, r, kk, P⟩
  refine xP_B (ifQ (soupE (xQ0_kp Q kk) w hp P hs n0 n1) (WF_So w.1 S8 n0 n1) (by simp only [xwr_at]; rw [if_neg (by decide), if_neg (by decide), if_neg (by decide), if_neg (by decide)]; exact P.2.2.2.2.2.2.1)) ?_
  rintro ⟨u, m2⟩ ⟨e2, r2, f⟩
  have e : v = xmm V := e
  have e2 : u = xmm (xSo V (2 * c + s) n h) := e2
  refine xP_some ⟨?_, xKp_tr (xKp_w (xKp_w (xKp_w (xKp_w kk (by decide) (by decide) (by decide)) (by decide) (by decide) (by decide)) (by decide) (by decide) (by decide)) (by decide) (by decide) (by decide)) (xFq_kp f)⟩
  show xw32 (u - v) = _
  rw [e, e2, xw32_id (by omega) (by omega)]
theorem isPoints_s (n : Int) (M : xM) : fD_isPoints n M = if 1 ≤ n ∧ n ≤ 9 then 1 else 0 := by
  unfold fD_isPoints; (repeat' split) <;> omega
theorem xnvQ {m V : xM} {c s : Int} (Q : xQ0 m 310 0 V) (w : xWE V) (c0 : 0 ≤ c) (c1 : c < V 0 0) (hs : s = 0 ∨ s = 1) : fQ_besideIn 310 0 c s m = some (xnv V c s) :=
  beside_s (w := 0) (N := V 0 0) (R := V 0 3) Q.1.1.2.1 Q.2 w.1.2.2.1 w.1.1.2 (by decide) (by decide) c0 c1 hs
theorem call_39 {M : xM} (S : Sim M) (c s n h : Int) : xC2 (fD_soup 1 c s n h M) (fQ_soup 310 c s n h) M := by
  obtain ⟨V, hv, W, Q, L⟩ := opn2 S
  have hN := W.1.1
  by_cases h1 : 0 ≤ c ∧ c < V 0 0 ∧ (s = 0 ∨ s = 1) ∧ xnv V c s ≠ -1 ∧ (1 ≤ n ∧ n ≤ 9) ∧ (0 ≤ h ∧ h < V 0 1)
  · obtain ⟨c0, c1, hs, hn, n9, hh⟩ := h1
    have p2 := W2 W c0 c1
    refine xC2_of (A := fun r => r = xmm (xSo V (2 * c + s) n h) - xmm V) ?_ (fun m k => ?_) (fun r s a b => a.trans b.symm)
    · unfold fD_soup
      rw [hasCell_s, hasHour_s, isSide_s, isPoints_s, xPv_0 hv 0 (by decide) (by decide), xPv_0 hv 1 (by decide) (by decide), nb_s hv W.1 c0 c1]
      simp only [if10]
      rw [if_neg (not_not_intro ⟨c0, c1⟩), if_neg (not_not_intro hs), if_neg (not_not_intro n9), if_neg (not_not_intro hh), if_neg (show ¬ xnb (V 0 0) (V 0 3) c s = -1 from hn), xw32_id (x := 2 * c) (by omega) (by omega), xw32_id (by omega) (by omega)]
      refine xP_B (gainD W (L p2).1 (by omega) n9.2) ?_
      rintro ⟨r, m⟩ h
      exact xP_some h
    · obtain ⟨k2, Q2⟩ := Q m k
      unfold fQ_soup
      rw [qCell_s Q2 W, qHour_s Q2 W, qSide_s, fQ_in_s, xnvQ Q2 W c0 c1 hs, xB_s]
      simp only [if10]
      rw [if_neg (not_not_intro ⟨c0, c1⟩), if_neg (not_not_intro hs), if_neg hn, if_neg (not_not_intro n9), if_neg (not_not_intro hh)]
      refine xP_B (gainQ W Q2 p2 hs (by omega) n9.2) ?_
      rintro ⟨r, m2⟩ h
      exact xP_some ⟨h.1, xKp_tr k2 h.2⟩
  · have d : fD_soup 1 c s n h M = some (-2, M) := by
      unfold fD_soup
      rw [hasCell_s, hasHour_s, isSide_s, isPoints_s, xPv_0 hv 0 (by decide) (by decide), xPv_0 hv 1 (by decide) (by decide)]
      simp only [if10]
      by_cases a : 0 ≤ c ∧ c < V 0 0
      · rw [if_neg (not_not_intro a), nb_s hv W.1 a.1 a.2]
        by_cases b : s = 0 ∨ s = 1
        · rw [if_neg (not_not_intro b)]
          by_cases e : 1 ≤ n ∧ n ≤ 9
          · rw [if_neg (not_not_intro e)]
            by_cases f : 0 ≤ h ∧ h < V 0 1
            · rw [if_neg (not_not_intro f), if_pos (show xnb (V 0 0) (V 0 3) c s = -1 from Classical.byContradiction (fun x => h1 ⟨a.1, a.2, b, x, e, f⟩))]
            · rw [if_pos f]
          · rw [if_pos e]
        · rw [if_pos b]
      · rw [if_pos a]
    rw [d]
    refine xC2_n (k := fun m => xwr m 310 0 0) (fun m k => ?_)
    obtain ⟨k2, Q2⟩ := Q m k
    refine ⟨?_, k2⟩
    unfold fQ_soup
    rw [qCell_s Q2 W, qHour_s Q2 W, qSide_s, fQ_in_s]
    simp only [if10]
    by_cases a : 0 ≤ c ∧ c < V 0 0
    · rw [if_neg (not_not_intro a)]
      by_cases b : s = 0 ∨ s = 1
      · rw [if_neg (not_not_intro b), xnvQ Q2 W a.1 a.2 b, xB_s]
        by_cases x : xnv V c s = -1
        · rw [if_pos x]
        · rw [if_neg x]
          by_cases e : 1 ≤ n ∧ n ≤ 9
          · rw [if_neg (not_not_intro e), if_pos (fun f => h1 ⟨a.1, a.2, b, x, e, f⟩)]
          · rw [if_pos e]
      · rw [if_pos b]
    · rw [if_pos a]
end
