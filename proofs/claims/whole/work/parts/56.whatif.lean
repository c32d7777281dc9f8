/-! what if: a copy of the prison, otherwise in one thing -/
noncomputable section
theorem copy_s {M : xM} {d s : Int} (hd : s + 10 < d ∨ d + 10 < s) (h3 : M s 3 = 0 ∨ M s 3 = 1) : xP (fPrison_copy d s M) (fun m => xF d (d + 10) M m ∧ ∀ V : xM, xPv M s V → xPv m d V) := by
  have hs : ∀ (A : xM) (i v : Int), xwr A d i v s = A s := fun A i v => xwr_a A (by omega)
  unfold fPrison_copy
  simp only [hs]
  rw [xA_p h3]
  obtain ⟨B, hB⟩ : ∃ B : xM, B = xwr (xwr (xwr (xwr (xwr (xwr (xwr (xwr M d 0 (M s 0)) d 1 (M s 1)) d 2 (M s 2)) d 3 (M s 3)) d 4 (M s 4)) d 5 (M s 5)) d 6 (M s 6)) d 7 (M s 7) := ⟨_, rfl⟩
  rw [← hB]
  have Bn : ∀ a : Int, a ≠ d → B a = M a := fun a ha => by rw [hB]; rw [xwr_a _ ha, xwr_a _ ha, xwr_a _ ha, xwr_a _ ha, xwr_a _ ha, xwr_a _ ha, xwr_a _ ha, xwr_a _ ha]
  have Bd : ∀ i : Int, 0 ≤ i → i < 8 → B d i = M s i := fun i i0 i1 => by
    have : i = 0 ∨ i = 1 ∨ i = 2 ∨ i = 3 ∨ i = 4 ∨ i = 5 ∨ i = 6 ∨ i = 7 := by omega
    rw [hB]
    rcases this with rfl | rfl | rfl | rfl | rfl | rfl | rfl | rfl <;> simp [xwr_at]
  clear hB
  refine xP_some ⟨?_, fun V hV a i ha => ?_⟩
  · intro a ha
    rw [xcpy_a _ (by omega), xcpy_a _ (by omega), xcpy_a _ (by omega), xcpy_a _ (by omega), xcpy_a _ (by omega), xcpy_a _ (by omega), xcpy_a _ (by omega), xcpy_a _ (by omega), xcpy_a _ (by omega), xcpy_a _ (by omega)]
    exact Bn a (by omega)
  · obtain ⟨i0, ha⟩ := ha
    have ka : a = 0 ∨ a = 1 ∨ a = 2 ∨ a = 3 ∨ a = 4 ∨ a = 5 ∨ a = 6 ∨ a = 7 ∨ a = 8 ∨ a = 9 ∨ a = 10 := by omega
    have hv := hV a i ⟨i0, ha⟩
    rcases ka with rfl | rfl | rfl | rfl | rfl | rfl | rfl | rfl | rfl | rfl | rfl
    · rw [Int.add_zero] at hv ⊢
      rw [xcpy_a _ (by omega), xcpy_a _ (by omega), xcpy_a _ (by omega), xcpy_a _ (by omega), xcpy_a _ (by omega), xcpy_a _ (by omega), xcpy_a _ (by omega), xcpy_a _ (by omega), xcpy_a _ (by omega), xcpy_a _ (by omega), Bd i i0 (by omega)]
      exact hv
    · rw [xcpy_a (x := d + 1) _ (by omega), xcpy_a (x := d + 1) _ (by omega), xcpy_a (x := d + 1) _ (by omega), xcpy_a (x := d + 1) _ (by omega), xcpy_a (x := d + 1) _ (by omega), xcpy_a (x := d + 1) _ (by omega), xcpy_a (x := d + 1) _ (by omega), xcpy_a (x := d + 1) _ (by omega), xcpy_a (x := d + 1) _ (by omega), xcpy_at, if_pos ⟨rfl, i0, by omega⟩, show i - 0 + 0 = i by omega, Bn (s + 1) (by omega)]
      exact hv
    · rw [xcpy_a (x := d + 2) _ (by omega), xcpy_a (x := d + 2) _ (by omega), xcpy_a (x := d + 2) _ (by omega), xcpy_a (x := d + 2) _ (by omega), xcpy_a (x := d + 2) _ (by omega), xcpy_a (x := d + 2) _ (by omega), xcpy_a (x := d + 2) _ (by omega), xcpy_a (x := d + 2) _ (by omega), xcpy_at, if_pos ⟨rfl, i0, by omega⟩, show i - 0 + 0 = i by omega, xcpy_a (x := s + 2) _ (by omega), Bn (s + 2) (by omega)]
      exact hv
    · rw [xcpy_a (x := d + 3) _ (by omega), xcpy_a (x := d + 3) _ (by omega), xcpy_a (x := d + 3) _ (by omega), xcpy_a (x := d + 3) _ (by omega), xcpy_a (x := d + 3) _ (by omega), xcpy_a (x := d + 3) _ (by omega), xcpy_a (x := d + 3) _ (by omega), xcpy_at, if_pos ⟨rfl, i0, by omega⟩, show i - 0 + 0 = i by omega, xcpy_a (x := s + 3) _ (by omega), xcpy_a (x := s + 3) _ (by omega), Bn (s + 3) (by omega)]
      exact hv
    · rw [xcpy_a (x := d + 4) _ (by omega), xcpy_a (x := d + 4) _ (by omega), xcpy_a (x := d + 4) _ (by omega), xcpy_a (x := d + 4) _ (by omega), xcpy_a (x := d + 4) _ (by omega), xcpy_a (x := d + 4) _ (by omega), xcpy_at, if_pos ⟨rfl, i0, by omega⟩, show i - 0 + 0 = i by omega, xcpy_a (x := s + 4) _ (by omega), xcpy_a (x := s + 4) _ (by omega), xcpy_a (x := s + 4) _ (by omega), Bn (s + 4) (by omega)]
      exact hv
    · rw [xcpy_a (x := d + 5) _ (by omega), xcpy_a (x := d + 5) _ (by omega), xcpy_a (x := d + 5) _ (by omega), xcpy_a (x := d + 5) _ (by omega), xcpy_a (x := d + 5) _ (by omega), xcpy_at, if_pos ⟨rfl, i0, by omega⟩, show i - 0 + 0 = i by omega, xcpy_a (x := s + 5) _ (by omega), xcpy_a (x := s + 5) _ (by omega), xcpy_a (x := s + 5) _ (by omega), xcpy_a (x := s + 5) _ (by omega), Bn (s + 5) (by omega)]
      exact hv
    · rw [xcpy_a (x := d + 6) _ (by omega), xcpy_a (x := d + 6) _ (by omega), xcpy_a (x := d + 6) _ (by omega), xcpy_a (x := d + 6) _ (by omega), xcpy_at, if_pos ⟨rfl, i0, by omega⟩, show i - 0 + 0 = i by omega, xcpy_a (x := s + 6) _ (by omega), xcpy_a (x := s + 6) _ (by omega), xcpy_a (x := s + 6) _ (by omega), xcpy_a (x := s + 6) _ (by omega), xcpy_a (x := s + 6) _ (by omega), Bn (s + 6) (by omega)]
      exact hv
    · rw [xcpy_a (x := d + 7) _ (by omega), xcpy_a (x := d + 7) _ (by omega), xcpy_a (x := d + 7) _ (by omega), xcpy_at, if_pos ⟨rfl, i0, by omega⟩, show i - 0 + 0 = i by omega, xcpy_a (x := s + 7) _ (by omega), xcpy_a (x := s + 7) _ (by omega), xcpy_a (x := s + 7) _ (by omega), xcpy_a (x := s + 7) _ (by omega), xcpy_a (x := s + 7) _ (by omega), xcpy_a (x := s + 7) _ (by omega), Bn (s + 7) (by omega)]
      exact hv
    · rw [xcpy_a (x := d + 8) _ (by omega), xcpy_a (x := d + 8) _ (by omega), xcpy_at, if_pos ⟨rfl, i0, by omega⟩, show i - 0 + 0 = i by omega, xcpy_a (x := s + 8) _ (by omega), xcpy_a (x := s + 8) _ (by omega), xcpy_a (x := s + 8) _ (by omega), xcpy_a (x := s + 8) _ (by omega), xcpy_a (x := s + 8) _ (by omega), xcpy_a (x := s + 8) _ (by omega), xcpy_a (x := s + 8) _ (by omega), Bn (s + 8) (by omega)]
      exact hv
    · rw [xcpy_a (x := d + 9) _ (by omega), xcpy_at, if_pos ⟨rfl, i0, by omega⟩, show i - 0 + 0 = i by omega, xcpy_a (x := s + 9) _ (by omega), xcpy_a (x := s + 9) _ (by omega), xcpy_a (x := s + 9) _ (by omega), xcpy_a (x := s + 9) _ (by omega), xcpy_a (x := s + 9) _ (by omega), xcpy_a (x := s + 9) _ (by omega), xcpy_a (x := s + 9) _ (by omega), xcpy_a (x := s + 9) _ (by omega), Bn (s + 9) (by omega)]
      exact hv
    · rw [xcpy_at, if_pos ⟨rfl, i0, by omega⟩, show i - 0 + 0 = i by omega, xcpy_a (x := s + 10) _ (by omega), xcpy_a (x := s + 10) _ (by omega), xcpy_a (x := s + 10) _ (by omega), xcpy_a (x := s + 10) _ (by omega), xcpy_a (x := s + 10) _ (by omega), xcpy_a (x := s + 10) _ (by omega), xcpy_a (x := s + 10) _ (by omega), xcpy_a (x := s + 10) _ (by omega), xcpy_a (x := s + 10) _ (by omega), Bn (s + 10) (by omega)]
      exact hv
theorem xPv_w {M V : xM} {p : Int} (h : xPv M p V) (a i v : Int) : xPv (xwr M (p + a) i v) p (xwr V a i v) := by
  intro b j hb
  rw [xwr_at, xwr_at]
  by_cases e : b = a ∧ j = i
  · rw [if_pos e, if_pos ⟨by rw [e.1], e.2⟩]
  · rw [if_neg e, if_neg (fun x => e ⟨by omega, x.2⟩)]
    exact h b j hb
theorem xPv_w0 {M V : xM} {p : Int} (h : xPv M p V) (i v : Int) : xPv (xwr M p i v) p (xwr V 0 i v) := by
  have := xPv_w h 0 i v
  rwa [Int.add_zero] at this
/-- the most that can be out in the end -/
def xmm (V : xM) : Int := @Classical.epsilon Int ⟨0⟩ (fun r => xMx (xcan V (V 0 1).toNat) r)
theorem xmm_eq {V : xM} {r : Int} (h : xMx (xcan V (V 0 1).toNat) r) : xmm V = r := xMx_one (@Classical.epsilon_spec Int (fun r => xMx (xcan V (V 0 1).toNat) r) ⟨r, h⟩) h
/-- the class's side of a call that goes back to the prison -/
def xDs (m V : xM) : Prop := xPv m (1 + 15) V ∧ xLook m (1 + 37) V
theorem xDs_kp {M m V : xM} (w : xWE V) (h : xDs M V) (k : xKp M m) : xDs m V :=
  ⟨xPv_go h.1 (fun a a0 a1 => k.1 a (by unfold xPer; omega)), xLook_go w.1 h.2 (fun a a0 a1 a2 => k.1 a (by unfold xPer; omega))⟩
theorem copyD {m V : xM} (w : xWE V) (h : xDs m V) : xP (fPrison_copy (1 + 26) (1 + 15) m) (fun k => xF 27 37 m k ∧ xPv k (1 + 26) V) := by
  have e3 : m (1 + 15) 3 = V 0 3 := xPv_0 h.1 3 (by decide) (by decide)
  refine xP_mono (copy_s (d := 1 + 26) (s := 1 + 15) (by omega) (by rw [e3]; exact w.1.2.2.1)) ?_
  rintro k ⟨f, g⟩
  exact ⟨f, g V h.1⟩
theorem atL {m U : xM} {x : Int} (W : xWF U) (l : xLook m x U) : fOutlook_atLast x m = some (rr x ((U 0 1).toNat : Nat)) := by
  have hH := W.2.1
  have e : m (x + 1) 1 = U 0 1 := l.1.2.1
  unfold fOutlook_atLast
  rw [e, xA_p (by omega), show x + 7 + 2 + 4 * U 0 1 = rr x (U 0 1) from rfl, Int.toNat_of_nonneg hH.1]
theorem nowD {m V : xM} (w : xWE V) (h : xLook m (1 + 37) V) : fD_mostNow 1 m = some (xmm V) := by
  have hH := w.1.2.1
  unfold fD_mostNow
  rw [atL w.1 h, xB_s]
  obtain ⟨q, e, hq⟩ := largest_s (h.2 (V 0 1).toNat (by omega))
  rw [e, xB_s, xmm_eq hq]
theorem draftD {m U : xM} (W : xWF U) (h : xPv m (1 + 26) U) : xP (fD_mostOfDraft 1 m) (fun x => x.1 = xmm U ∧ xF 148 255 m x.2) := by
  have hH := W.2.1
  unfold fD_mostOfDraft
  refine xP_B (explore_s (x := 1 + 146) (p := 1 + 26) h W (by decide)) ?_
  rintro k ⟨f, l⟩
  rw [atL W l, xB_s]
  refine xP_B (largest_s (l.2 (U 0 1).toNat (by omega))) (fun q hq => xP_some ⟨(xmm_eq hq).symm, f⟩)
theorem kp_draft {m k : xM} (f : xF 27 37 m k) : xKp m k := xKp_F f (fun a a0 a1 => by unfold xPer; omega)
theorem kp_trial {m k : xM} (f : xF 148 255 m k) : xKp m k := xKp_F f (fun a a0 a1 => by unfold xPer; omega)
theorem xmm_rg {V : xM} {r : Int} (h : xMx (xcan V (V 0 1).toNat) r) : -1 ≤ xmm V ∧ xmm V ≤ 32 := by rw [xmm_eq h]; exact xMx_rg h
theorem nowQ {m V : xM} (Q : xQ0 m 310 0 V) (w : xWE V) (hp : 2 ≤ V 0 0) : xP (fQ_mostPlain 310 m) (fun r => r.1 = xmm V ∧ (-1 ≤ xmm V ∧ xmm V ≤ 32) ∧ xKp m r.2 ∧ xPl r.2 310) :=
  xP_mono (mostPlain_s Q w hp) (fun r h => ⟨(xmm_eq h.1).symm, xmm_rg h.1, h.2.1, h.2.2.2.2.1⟩)
theorem ifQ {m U : xM} (E : xEf m 310 U) (W : xWF U) (hz : m 310 29 = 0) : xP (fQ_mostNow 310 m) (fun r => r.1 = xmm U ∧ (-1 ≤ xmm U ∧ xmm U ≤ 32) ∧ xFq 310 m r.2) :=
  xP_mono (qmost_s E W hz) (fun r h => ⟨(xmm_eq h.1).symm, xmm_rg h.1, h.2.1⟩)
/-! deaf -/
theorem xwr_r {V : xM} {a c v : Int} (r i : Int) (h : r ≠ a) : xwr V a c v r i = V r i := xwr_n V (fun x => h x.1)
theorem WF_1 {V : xM} (w : xWF V) {c v : Int} (v0 : 0 ≤ v) (v1 : v ≤ 3) (v2 : v ≠ 2) : xWF (xwr V 1 c v) := by
  have e0 := fun i => xwr_r (V := V) (a := 1) (c := c) (v := v) 0 i (by decide)
  have e2 := fun i => xwr_r (V := V) (a := 1) (c := c) (v := v) 2 i (by decide)
  have e3 := fun i => xwr_r (V := V) (a := 1) (c := c) (v := v) 3 i (by decide)
  have e5 := fun i => xwr_r (V := V) (a := 1) (c := c) (v := v) 5 i (by decide)
  have e6 := fun i => xwr_r (V := V) (a := 1) (c := c) (v := v) 6 i (by decide)
  have e8 := fun i => xwr_r (V := V) (a := 1) (c := c) (v := v) 8 i (by decide)
  have e10 := fun i => xwr_r (V := V) (a := 1) (c := c) (v := v) 10 i (by decide)
  unfold xWF at w ⊢
  simp only [e0, e2, e3, e5, e6, e8, e10]
  refine ⟨w.1, w.2.1, w.2.2.1, w.2.2.2.1, fun d d0 d1 => ?_, w.2.2.2.2.2⟩
  have x := w.2.2.2.2.1 d d0 d1
  rw [xwr_at]
  split
  · exact ⟨⟨v0, v1⟩, x.2.1, fun y => absurd y v2, x.2.2.2⟩
  · exact x
theorem deafE {m V : xM} {c : Int} (Q : xQ0 m 310 0 V) (w : xWE V) (hp : 2 ≤ V 0 0) (P : xPl m 310) (c0 : 0 ≤ c) (c1 : c < V 0 0) : xEf (xwr m 310 27 (xshl 1 c)) 310 (xwr V 1 c 3) := by
  have hN := w.1.1
  obtain ⟨p1, p2, p3, p4, p5, p6, p7, p8, p9⟩ := P
  have f : ∀ i : Int, i ≠ 27 → (xwr m 310 27 (xshl 1 c)) 310 i = m 310 i := fun i hi => xwr_n _ (fun x => hi x.2)
  have Q' : xQd (xwr m 310 27 (xshl 1 c)) 310 0 V := xQd_go Q.1 (fun a a0 a1 => xwr_a _ (by omega))
  refine xEf_mk Q' w hp (by rw [xwr_a _ (by decide), xwr_r _ _ (by decide)]; exact Q.2) (by rw [xwr_r _ _ (by decide)]; exact w.1.2.2.1) (xwr_r _ _ (by decide)) (xwr_r _ _ (by decide)) (fun d h _ _ _ _ => ?_) (fun d d0 d1 => ?_) (fun b _ _ => ?_) (fun k _ _ => ⟨xwr_r _ _ (by decide), xwr_r _ _ (by decide), xwr_r _ _ (by decide)⟩) (Or.inl ⟨by rw [f _ (by decide)]; exact p8, xwr_r _ _ (by decide)⟩)
  · rw [xwr_r _ _ (by decide), f 23 (by decide), f 35 (by decide), p1, p9]; simp
  · rw [xwr_r _ _ (by decide)] at d1
    rw [xwr_s, f 25 (by decide), f 26 (by decide), f 28 (by decide), xwr_r 2 d (by decide), xwr_r 3 d (by decide), xwr_r 0 4 (by decide), xwr_r 0 5 (by decide), p3, p4, p6, xbt_0, xbt_shl1 c0 (by omega) d0 (by omega), xwr_at]
    by_cases e : d = c
    · simp [e]
    · simp [e]
  · rw [f 24 (by decide), p2, xwr_r _ _ (by decide)]; simp
theorem harmD {m V : xM} {c : Int} (w : xWE V) (h : xDs m V) (hp : 2 ≤ V 0 0) (c0 : 0 ≤ c) (c1 : c < V 0 0) (rV : -1 ≤ xmm V ∧ xmm V ≤ 32) (rU : -1 ≤ xmm (xwr V 1 c 3) ∧ xmm (xwr V 1 c 3) ≤ 32) : xP (fD_harmOf 1 c m) (fun x => x.1 = xmm V - xmm (xwr V 1 c 3) ∧ xKp m x.2) := by
  have hN := w.1.1
  unfold fD_harmOf
  refine xP_B (copyD w h) ?_
  rintro k ⟨f, v⟩
  have f2 : xF 27 37 m (xwr k (1 + 26 + 1) c 3) := xwr_F f (by decide) (by decide)
  have l := (xDs_kp w h (kp_draft f2)).2
  rw [xA_p (by omega), nowD w l, xB_s]
  refine xP_B (draftD (WF_1 w.1 (by decide) (by decide) (by decide)) (xPv_w v 1 c 3)) ?_
  rintro ⟨u, k2⟩ ⟨e, f3⟩
  have e : u = xmm (xwr V 1 c 3) := e
  refine xP_some ⟨?_, xKp_tr (kp_draft f2) (kp_trial f3)⟩
  show xw32 (xmm V - u) = _
  rw [e, xw32_id (by omega) (by omega)]
theorem harmQ {m V : xM} {c : Int} (w : xWE V) (Q : xQ0 m 310 0 V) (hp : 2 ≤ V 0 0) (c0 : 0 ≤ c) (c1 : c < V 0 0) : xP (fQ_harmOf 310 c m) (fun x => x.1 = xmm V - xmm (xwr V 1 c 3) ∧ xKp m x.2 ∧ (-1 ≤ xmm V ∧ xmm V ≤ 32) ∧ (-1 ≤ xmm (xwr V 1 c 3) ∧ xmm (xwr V 1 c 3) ≤ 32)) := by
  unfold fQ_harmOf
  refine xP_B (nowQ Q w hp) ?_
  rintro ⟨v, k⟩ ⟨e, r, kk, P⟩
  refine xP_B (ifQ (deafE (xQ0_kp Q kk) w hp P c0 c1) (WF_1 w.1 (by decide) (by decide) (by decide)) (by rw [xwr_n _ (by decide)]; exact P.2.2.2.2.2.2.1)) ?_
  rintro ⟨u, k2⟩ ⟨e2, r2, f⟩
  have e : v = xmm V := e
  have e2 : u = xmm (xwr V 1 c 3) := e2
  refine xP_some ⟨?_, xKp_tr (xKp_w kk (by decide) (by decide) (by decide)) (xFq_kp f), r, r2⟩
  show xw32 (v - u) = _
  rw [e, e2, xw32_id (by omega) (by omega)]
theorem xC2_q {d : Option (Int × xM)} {q : xM → Option (Int × xM)} {M : xM} {A : Int → Prop} (hq : ∀ m : xM, xKp M m → xP (q m) (fun x => A x.1 ∧ xKp m x.2)) (hd : xP d (fun x => A x.1 ∧ xKp M x.2)) (one : ∀ r s : Int, A r → A s → r = s) : xC2 d q M := xC2_of hd hq one
theorem xC2_n {M : xM} {r : Int} {q : xM → Option (Int × xM)} {k : xM → xM} (hq : ∀ m : xM, xKp M m → q m = some (r, k m) ∧ xKp m (k m)) : xC2 (some (r, M)) q M := ⟨r, M, k M, rfl, xKp_rfl M, (hq M (xKp_rfl M)).1, (hq M (xKp_rfl M)).2⟩
theorem opn2 {M : xM} (S : Sim M) : ∃ V : xM, xPv M (1 + 15) V ∧ xWE V ∧ (∀ m : xM, xKp M m → xKp m (xwr m 310 0 0) ∧ xQ0 (xwr m 310 0 0) 310 0 V) ∧ (2 ≤ V 0 0 → xDs M V ∧ xCs M (1 + 255) V) := by
  refine ⟨xVw M 16, xPv_V M 16, S.2.2.1.1, fun m k => ?_, fun h => ?_⟩
  · have k2 : xKp m (xwr m 310 0 0) := xKp_w (xKp_rfl m) (by decide) (by decide) (by decide)
    exact ⟨k2, xQ0_kp S.2.2.1.2 (xKp_tr k k2)⟩
  · exact ⟨⟨xPv_V M 16, (S.2.2.2.2.2 h).1⟩, (S.2.2.2.2.2 h).2⟩
theorem harm_rg {V : xM} {c : Int} {m : xM} (w : xWE V) (Q : xQ0 m 310 0 V) (hp : 2 ≤ V 0 0) (c0 : 0 ≤ c) (c1 : c < V 0 0) : (-1 ≤ xmm V ∧ xmm V ≤ 32) ∧ (-1 ≤ xmm (xwr V 1 c 3) ∧ xmm (xwr V 1 c 3) ≤ 32) := by
  obtain ⟨x, -, -, -, r, u⟩ := harmQ w Q hp c0 c1
  exact ⟨r, u⟩
theorem call_36 {M : xM} (S : Sim M) (c : Int) : xC2 (fD_harm 1 c M) (fQ_harm 310 c) M := by
  obtain ⟨V, hv, W, Q, L⟩ := opn2 S
  unfold fD_harm
  rw [hasCell_s, xPv_0 hv 0 (by decide) (by decide)]
  simp only [if10]
  by_cases h1 : 0 ≤ c ∧ c < V 0 0
  · have p2 := W2 W h1.1 h1.2
    have rg := harm_rg (c := c) W (Q M (xKp_rfl M)).2 p2 h1.1 h1.2
    rw [if_neg (not_not_intro h1)]
    refine xC2_of (A := fun r => r = xmm V - xmm (xwr V 1 c 3)) ?_ (fun m k => ?_) (fun r s a b => a.trans b.symm)
    · refine xP_B (harmD W (L p2).1 p2 h1.1 h1.2 rg.1 rg.2) ?_
      rintro ⟨r, m⟩ h
      exact xP_some h
    · obtain ⟨k2, Q2⟩ := Q m k
      unfold fQ_harm
      rw [qCell_s Q2 W]
      simp only [if10]
      rw [if_neg (not_not_intro h1)]
      refine xP_B (harmQ W Q2 p2 h1.1 h1.2) ?_
      rintro ⟨r, m2⟩ h
      exact xP_some ⟨h.1, xKp_tr k2 h.2.1⟩
  · rw [if_pos h1]
    refine xC2_n (k := fun m => xwr m 310 0 0) (fun m k => ?_)
    obtain ⟨k2, Q2⟩ := Q m k
    unfold fQ_harm
    rw [qCell_s Q2 W]
    simp only [if10]
    rw [if_pos h1]
    exact ⟨rfl, k2⟩
end
