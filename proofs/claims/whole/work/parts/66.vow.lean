/-! vow, quarrel, plan -/
noncomputable section
theorem xnv_9 {V U : xM} (e : ∀ a i : Int, 0 ≤ a → a ≤ 9 → U a i = V a i) (c s : Int) : xnv U c s = xnv V c s := by
  unfold xnv; rw [e 0 0 (by decide) (by decide), e 0 3 (by decide) (by decide)]
theorem xlk_9 {V U : xM} (e : ∀ a i : Int, 0 ≤ a → a ≤ 9 → U a i = V a i) (b h : Int) : xlk U b h = xlk V b h := by
  have k : ∀ n : Nat, xsp U b h n = xsp V b h n := by
    intro n
    induction n with
    | zero => rfl
    | succ n ih => unfold xsp; rw [ih, e 7 _ (by decide) (by decide), e 8 _ (by decide) (by decide), e 9 _ (by decide) (by decide)]
  unfold xlk
  rw [k, e 6 _ (by decide) (by decide), e 0 7 (by decide) (by decide)]
theorem xwo_9 {V U : xM} (e : ∀ a i : Int, 0 ≤ a → a ≤ 9 → U a i = V a i) (c s h : Int) : xwo U c s h = xwo V c s h := by
  unfold xwo xwy xhis
  rw [xlk_9 e, e 0 0 (by decide) (by decide), e 0 3 (by decide) (by decide), e 0 4 (by decide) (by decide), e 0 5 (by decide) (by decide), e 1 c (by decide) (by decide), e 2 c (by decide) (by decide), e 3 c (by decide) (by decide), e 5 c (by decide) (by decide)]
theorem xop_9 {V U : xM} (e : ∀ a i : Int, 0 ≤ a → a ≤ 9 → U a i = V a i) : xop U = xop V ∧ xOk U = xOk V ∧ xT U = xT V ∧ xBr U = xBr V ∧ xN2 U = xN2 V := by
  have t : xT U = xT V := by funext c s h; unfold xT; rw [xwo_9 e]
  have n : xN2 U = xN2 V := by funext c d; unfold xN2; rw [xnv_9 e, xnv_9 e]
  have b : xBr U = xBr V := by funext c d; unfold xBr xLy; rw [n, e 0 4 (by decide) (by decide)]
  have o : xOk U = xOk V := by funext c h; unfold xOk; rw [xnv_9 e, xnv_9 e, t]
  refine ⟨?_, o, t, b, n⟩
  funext c h s
  unfold xop
  rw [o, b]
theorem xcan_n9 {V U : xM} (e : ∀ a i : Int, 0 ≤ a → a ≤ 9 → U a i = V a i) : ∀ h : Nat, xcan U h = xcan V h
  | 0 => rfl
  | h + 1 => by
    funext s
    unfold xcan
    rw [xcan_n9 e h, (xop_9 e).1, e 0 0 (by decide) (by decide)]
theorem xLook_9 {m V U : xM} {x : Int} (h : xLook m x V) (e : ∀ a i : Int, 0 ≤ a → a ≤ 9 → U a i = V a i) : xLook m x U := by
  obtain ⟨-, o, t, b, n⟩ := xop_9 e
  unfold xLook xKO xKT xKD at h ⊢
  simp only [o, t, b, n, xcan_n9 e, e 0 0 (by decide) (by decide), e 0 1 (by decide) (by decide)]
  exact h
theorem msk_b {q c a d : Int} (ha : a = 0 ∨ a = 1) (c0 : 0 ≤ c) (c1 : c < 32) (d0 : 0 ≤ d) (d1 : d < 32) : xbt (xor32 (xand q (xxor (xshl 1 c) (-1))) (xshl a c)) d = if d = c then decide (a = 1) else xbt q d := by
  rw [xbt_or, xbt_and, xbt_not _ d0 d1, xbt_shl1 c0 c1 d0 d1]
  rcases ha with rfl | rfl
  · rw [xshl_0, xbt_0]
    by_cases e : d = c
    · simp [e]
    · simp [e]
  · rw [xbt_shl1 c0 c1 d0 d1]
    by_cases e : d = c
    · simp [e]
    · simp [e]
theorem msk_rg {q c a : Int} {n : Nat} (ha : a = 0 ∨ a = 1) (q0 : 0 ≤ q) (q1 : q < 2 ^ n) (hn : n ≤ 31) (c0 : 0 ≤ c) (c1 : c < n) : 0 ≤ xor32 (xand q (xxor (xshl 1 c) (-1))) (xshl a c) ∧ xor32 (xand q (xxor (xshl 1 c) (-1))) (xshl a c) < 2 ^ n :=
  xbt_lo (xor_in _ _) hn (fun d d0 d1 => by rw [msk_b ha c0 (by omega) (by omega) d1, if_neg (by omega)]; exact xbt_hi q0 q1 d0 d1)
theorem WE_04 {V : xM} (w : xWE V) {y : Int} (y0 : 0 ≤ y) (y1 : y < 512) : xWE (xwr V 0 4 y) := by
  have e5 := fun i => xwr_r (V := V) (a := 0) (c := 4) (v := y) 5 i (by decide)
  have e10 := fun i => xwr_r (V := V) (a := 0) (c := 4) (v := y) 10 i (by decide)
  have e0 : ∀ i : Int, i ≠ 4 → xwr V 0 4 y 0 i = V 0 i := fun i hi => xwr_n _ (fun x => hi x.2)
  have W := WF_04 w.1 (v := y) (by unfold x32; omega)
  refine ⟨W, ?_⟩
  have w2 := w.2
  simp only [e5, e10, e0 0 (by decide), e0 1 (by decide), e0 2 (by decide), e0 3 (by decide), e0 5 (by decide), e0 6 (by decide), e0 7 (by decide), xwr_s]
  exact ⟨w2.1, w2.2.1, w2.2.2.1, w2.2.2.2.1, w2.2.2.2.2.1, w2.2.2.2.2.2.1, w2.2.2.2.2.2.2.1, w2.2.2.2.2.2.2.2.1, w2.2.2.2.2.2.2.2.2.1, ⟨y0, y1⟩, w2.2.2.2.2.2.2.2.2.2.2⟩
theorem WE_05 {V : xM} (w : xWE V) {y : Int} (y0 : 0 ≤ y) (y1 : y < 2 ^ (V 0 0).toNat) (y2 : y < 512) : xWE (xwr V 0 5 y) := by
  have e5 := fun i => xwr_r (V := V) (a := 0) (c := 5) (v := y) 5 i (by decide)
  have e10 := fun i => xwr_r (V := V) (a := 0) (c := 5) (v := y) 10 i (by decide)
  have e0 : ∀ i : Int, i ≠ 5 → xwr V 0 5 y 0 i = V 0 i := fun i hi => xwr_n _ (fun x => hi x.2)
  have W := WF_05 w.1 (v := y) (by unfold x32; omega)
  refine ⟨W, ?_⟩
  have w2 := w.2
  simp only [e5, e10, e0 0 (by decide), e0 1 (by decide), e0 2 (by decide), e0 3 (by decide), e0 4 (by decide), e0 6 (by decide), e0 7 (by decide), xwr_s]
  exact ⟨w2.1, w2.2.1, w2.2.2.1, w2.2.2.2.1, w2.2.2.2.2.1, w2.2.2.2.2.2.1, w2.2.2.2.2.2.2.1, w2.2.2.2.2.2.2.2.1, ⟨y0, y1⟩, w2.2.2.2.2.2.2.2.2.2⟩
theorem WE_10 {V : xM} (w : xWE V) {h x : Int} (hx : x = -1 ∨ (0 ≤ x ∧ x < V 0 0)) : xWE (xwr V 10 h x) := by
  have e0 := fun i => xwr_r (V := V) (a := 10) (c := h) (v := x) 0 i (by decide)
  have e1 := fun i => xwr_r (V := V) (a := 10) (c := h) (v := x) 1 i (by decide)
  have e2 := fun i => xwr_r (V := V) (a := 10) (c := h) (v := x) 2 i (by decide)
  have e3 := fun i => xwr_r (V := V) (a := 10) (c := h) (v := x) 3 i (by decide)
  have e4 := fun i => xwr_r (V := V) (a := 10) (c := h) (v := x) 4 i (by decide)
  have e5 := fun i => xwr_r (V := V) (a := 10) (c := h) (v := x) 5 i (by decide)
  have e6 := fun i => xwr_r (V := V) (a := 10) (c := h) (v := x) 6 i (by decide)
  have e7 := fun i => xwr_r (V := V) (a := 10) (c := h) (v := x) 7 i (by decide)
  have e8 := fun i => xwr_r (V := V) (a := 10) (c := h) (v := x) 8 i (by decide)
  have e9 := fun i => xwr_r (V := V) (a := 10) (c := h) (v := x) 9 i (by decide)
  have hN := w.1.1
  unfold xWE xWF at w ⊢
  simp only [e0, e1, e2, e3, e5, e6, e8]
  refine ⟨⟨w.1.1, w.1.2.1, w.1.2.2.1, w.1.2.2.2.1, w.1.2.2.2.2.1, w.1.2.2.2.2.2.1, w.1.2.2.2.2.2.2.1, w.1.2.2.2.2.2.2.2.1, w.1.2.2.2.2.2.2.2.2.1, fun k k0 k1 => ?_⟩, w.2.1, w.2.2.1, w.2.2.2.1, w.2.2.2.2.1, w.2.2.2.2.2.1, w.2.2.2.2.2.2.1, w.2.2.2.2.2.2.2.1, w.2.2.2.2.2.2.2.2.1, w.2.2.2.2.2.2.2.2.2.1, w.2.2.2.2.2.2.2.2.2.2.1, w.2.2.2.2.2.2.2.2.2.2.2.1, fun k k0 k1 => ?_⟩
  · have z := w.1.2.2.2.2.2.2.2.2.2 k k0 k1
    rw [xwr_at]
    split
    · omega
    · exact z
  · have z := w.2.2.2.2.2.2.2.2.2.2.2.2 k k0 k1
    rw [xwr_at]
    split
    · omega
    · exact z
theorem Q0_04 {V m : xM} {c a y : Int} (ha : a = 0 ∨ a = 1) (hy : ∀ d : Int, 0 ≤ d → d < 9 → xbt y d = if d = c then decide (a = 1) else xbt (V 0 4) d) (Q : xQ0 m 310 0 V) : xQ0 (xwr m (310 + 8) (6 * c + 5) a) 310 0 (xwr V 0 4 y) := by
  have e1 := fun i => xwr_r (V := V) (a := 0) (c := 4) (v := y) 1 i (by decide)
  have e2 := fun i => xwr_r (V := V) (a := 0) (c := 4) (v := y) 2 i (by decide)
  have e3 := fun i => xwr_r (V := V) (a := 0) (c := 4) (v := y) 3 i (by decide)
  have e4 := fun i => xwr_r (V := V) (a := 0) (c := 4) (v := y) 4 i (by decide)
  have e5 := fun i => xwr_r (V := V) (a := 0) (c := 4) (v := y) 5 i (by decide)
  have e6 := fun i => xwr_r (V := V) (a := 0) (c := 4) (v := y) 6 i (by decide)
  have e7 := fun i => xwr_r (V := V) (a := 0) (c := 4) (v := y) 7 i (by decide)
  have e8 := fun i => xwr_r (V := V) (a := 0) (c := 4) (v := y) 8 i (by decide)
  have e9 := fun i => xwr_r (V := V) (a := 0) (c := 4) (v := y) 9 i (by decide)
  have e10 := fun i => xwr_r (V := V) (a := 0) (c := 4) (v := y) 10 i (by decide)
  have e0 : ∀ i : Int, i ≠ 4 → xwr V 0 4 y 0 i = V 0 i := fun i hi => xwr_n _ (fun x => hi x.2)
  have f6 : (xwr m (310 + 8) (6 * c + 5) a) (310 + 6) = m (310 + 6) := xwr_a _ (by decide)
  have f7 : (xwr m (310 + 8) (6 * c + 5) a) (310 + 7) = m (310 + 7) := xwr_a _ (by decide)
  have f9 : (xwr m (310 + 8) (6 * c + 5) a) (310 + 9) = m (310 + 9) := xwr_a _ (by decide)
  have f10 : (xwr m (310 + 8) (6 * c + 5) a) (310 + 10) = m (310 + 10) := xwr_a _ (by decide)
  have f11 : (xwr m (310 + 8) (6 * c + 5) a) (310 + 11) = m (310 + 11) := xwr_a _ (by decide)
  have nv : ∀ d s : Int, xnv (xwr V 0 4 y) d s = xnv V d s := fun d s => by unfold xnv; rw [e0 0 (by decide), e0 3 (by decide)]
  unfold xQ0 xQd at Q ⊢
  simp only [e0 0 (by decide), e0 1 (by decide), e0 2 (by decide), e0 3 (by decide), e0 5 (by decide), e0 6 (by decide), e0 7 (by decide), xwr_s V 0 4 y, e1, e2, e3, e4, e5, e6, e7, e8, e9, e10, f6, f7, f9, f10, f11, xnk_a f9, nv]
  refine ⟨⟨Q.1.1, fun d d0 d1 => ?_, Q.1.2.2⟩, Q.2⟩
  obtain ⟨q0, q1, q2, q3, q4, q5⟩ := Q.1.2.1 d d0 d1
  refine ⟨?_, ?_, ?_, ?_, ?_, ?_⟩
  · rw [xwr_n _ (by omega)]; exact q0
  · rw [xwr_n _ (by omega)]; exact q1
  · rw [xwr_n _ (by omega)]; exact q2
  · rw [xwr_n _ (by omega)]; exact q3
  · rw [xwr_n _ (by omega)]; exact q4
  · rw [xwr_at, q5, hy d d0 d1]
    by_cases e : d = c
    · rw [if_pos (by omega), if_pos e]
      rcases ha with rfl | rfl <;> rfl
    · rw [if_neg (by omega), if_neg e]
theorem Q0_05 {V m : xM} {y : Int} (Q : xQ0 m 310 0 V) : xQ0 (xwr m (310 + 7) 4 y) 310 0 (xwr V 0 5 y) := by
  have e1 := fun i => xwr_r (V := V) (a := 0) (c := 5) (v := y) 1 i (by decide)
  have e2 := fun i => xwr_r (V := V) (a := 0) (c := 5) (v := y) 2 i (by decide)
  have e3 := fun i => xwr_r (V := V) (a := 0) (c := 5) (v := y) 3 i (by decide)
  have e4 := fun i => xwr_r (V := V) (a := 0) (c := 5) (v := y) 4 i (by decide)
  have e5 := fun i => xwr_r (V := V) (a := 0) (c := 5) (v := y) 5 i (by decide)
  have e6 := fun i => xwr_r (V := V) (a := 0) (c := 5) (v := y) 6 i (by decide)
  have e7 := fun i => xwr_r (V := V) (a := 0) (c := 5) (v := y) 7 i (by decide)
  have e8 := fun i => xwr_r (V := V) (a := 0) (c := 5) (v := y) 8 i (by decide)
  have e9 := fun i => xwr_r (V := V) (a := 0) (c := 5) (v := y) 9 i (by decide)
  have e10 := fun i => xwr_r (V := V) (a := 0) (c := 5) (v := y) 10 i (by decide)
  have e0 : ∀ i : Int, i ≠ 5 → xwr V 0 5 y 0 i = V 0 i := fun i hi => xwr_n _ (fun x => hi x.2)
  have f6 : (xwr m (310 + 7) 4 y) (310 + 6) = m (310 + 6) := xwr_a _ (by decide)
  have f8 : (xwr m (310 + 7) 4 y) (310 + 8) = m (310 + 8) := xwr_a _ (by decide)
  have f9 : (xwr m (310 + 7) 4 y) (310 + 9) = m (310 + 9) := xwr_a _ (by decide)
  have f10 : (xwr m (310 + 7) 4 y) (310 + 10) = m (310 + 10) := xwr_a _ (by decide)
  have f11 : (xwr m (310 + 7) 4 y) (310 + 11) = m (310 + 11) := xwr_a _ (by decide)
  have g : ∀ i : Int, i ≠ 4 → (xwr m (310 + 7) 4 y) (310 + 7) i = m (310 + 7) i := fun i hi => xwr_n _ (fun x => hi x.2)
  have nv : ∀ d s : Int, xnv (xwr V 0 5 y) d s = xnv V d s := fun d s => by unfold xnv; rw [e0 0 (by decide), e0 3 (by decide)]
  unfold xQ0 xQd at Q ⊢
  simp only [e0 0 (by decide), e0 1 (by decide), e0 2 (by decide), e0 3 (by decide), e0 4 (by decide), e0 6 (by decide), e0 7 (by decide), xwr_s V 0 5 y, e1, e2, e3, e4, e5, e6, e7, e8, e9, e10, f6, f8, f9, f10, f11, xnk_a f9, nv]
  obtain ⟨⟨⟨a1, a2, a3, a4, a5, a6⟩, b⟩, c⟩ := Q
  exact ⟨⟨⟨a1, by rw [g _ (by decide)]; exact a2, by rw [g _ (by decide)]; exact a3, xwr_s m (310 + 7) 4 y, by rw [g _ (by decide)]; exact a5, by rw [g _ (by decide)]; exact a6⟩, b⟩, by rw [g _ (by decide)]; exact c⟩
theorem Q0_10 {V m : xM} {h x : Int} (Q : xQ0 m 310 0 V) : xQ0 (xwr m (310 + 11) h x) 310 0 (xwr V 10 h x) := by
  have e0 := fun i => xwr_r (V := V) (a := 10) (c := h) (v := x) 0 i (by decide)
  have e1 := fun i => xwr_r (V := V) (a := 10) (c := h) (v := x) 1 i (by decide)
  have e2 := fun i => xwr_r (V := V) (a := 10) (c := h) (v := x) 2 i (by decide)
  have e3 := fun i => xwr_r (V := V) (a := 10) (c := h) (v := x) 3 i (by decide)
  have e4 := fun i => xwr_r (V := V) (a := 10) (c := h) (v := x) 4 i (by decide)
  have e5 := fun i => xwr_r (V := V) (a := 10) (c := h) (v := x) 5 i (by decide)
  have e6 := fun i => xwr_r (V := V) (a := 10) (c := h) (v := x) 6 i (by decide)
  have e7 := fun i => xwr_r (V := V) (a := 10) (c := h) (v := x) 7 i (by decide)
  have e8 := fun i => xwr_r (V := V) (a := 10) (c := h) (v := x) 8 i (by decide)
  have e9 := fun i => xwr_r (V := V) (a := 10) (c := h) (v := x) 9 i (by decide)
  have f6 : (xwr m (310 + 11) h x) (310 + 6) = m (310 + 6) := xwr_a _ (by decide)
  have f7 : (xwr m (310 + 11) h x) (310 + 7) = m (310 + 7) := xwr_a _ (by decide)
  have f8 : (xwr m (310 + 11) h x) (310 + 8) = m (310 + 8) := xwr_a _ (by decide)
  have f9 : (xwr m (310 + 11) h x) (310 + 9) = m (310 + 9) := xwr_a _ (by decide)
  have f10 : (xwr m (310 + 11) h x) (310 + 10) = m (310 + 10) := xwr_a _ (by decide)
  have nv : ∀ d s : Int, xnv (xwr V 10 h x) d s = xnv V d s := fun d s => by unfold xnv; rw [e0, e0]
  unfold xQ0 xQd at Q ⊢
  simp only [e0, e1, e2, e3, e4, e5, e6, e7, e8, e9, f6, f7, f8, f9, f10, xnk_a f9, nv]
  refine ⟨⟨Q.1.1, Q.1.2.1, Q.1.2.2.1, Q.1.2.2.2.1, Q.1.2.2.2.2.1, fun k k0 k1 => ?_⟩, Q.2⟩
  have z := Q.1.2.2.2.2.2 k k0 k1
  rw [xwr_at, xwr_at, z]
  (repeat' split) <;> first | rfl | (exfalso; omega)
theorem call_54 {M : xM} (S : Sim M) (c a : Int) : xC3 (fD_vow 1 c a M) (fQ_vow 310 c a) M := by
  have K : xKp M (xwr M 310 0 0) := xKp_w (xKp_rfl M) (by decide) (by decide) (by decide)
  have W := S.2.2.1.1
  have Q := S.2.2.1.2
  have hN := W.1.1
  have hv := xPv_V M 16
  unfold fD_vow
  rw [hasCell_s, show M (1 + 15) 0 = xVw M 16 0 0 from xPv_0 hv 0 (by decide) (by decide)]
  simp only [if10]
  by_cases h1 : 0 ≤ c ∧ c < xVw M 16 0 0
  · rw [if_neg (not_not_intro h1)]
    by_cases h2 : a = 0 ∨ a = 1
    · have r4 := W.2.2.2.2.2.2.2.2.2.2.1
      have rg := msk_rg (n := 9) h2 r4.1 r4.2 (by decide) h1.1 (show c < 9 by omega)
      obtain ⟨m1, e1, z1, f1, z2, T⟩ := set_s S (r := 0) (i := 4) (v := xor32 (xand (xVw M 16 0 4) (xxor (xshl 1 c) (-1))) (xshl a c)) (b := 8) (j := 6 * c + 5) (u := a) (by decide) (by decide) (WE_04 W rg.1 rg.2) (by omega) (fun m hm => Q0_04 h2 (fun d d0 d1 => msk_b h2 h1.1 (by omega) d0 (by omega)) hm)
      have Q1 : xQ0 (xwr m1 310 0 0) 310 0 (xVw M 16) := ⟨xQd_go Q.1 (fun a a0 a1 => by rw [xwr_a _ (by omega), f1 a (by omega)]), by rw [xwr_a _ (by omega), f1 _ (by omega)]; exact Q.2⟩
      rw [if_neg (show ¬ a < 0 by omega), if_neg (show ¬ 1 < a by omega)]
      refine ⟨fD_bit (xVw M 16 0 4) c M, m1, _, by show xB (fD_settle 1 (xwr M (16 + 0) 4 (xor32 (xand (xVw M 16 0 4) (xxor (xshl 1 c) (-1))) (xshl a c)))) _ = _; rw [e1]; rfl, z1, ?_, z2, T⟩
      unfold fQ_vow fQ_sets3
      rw [qCell_s Q1 W, qSide_s]
      simp only [if10]
      rw [if_neg (not_not_intro h1), if_neg (not_not_intro h2), xw32_id (x := 6 * c) (by omega) (by omega), xw32_id (x := 6 * c + 5) (by omega) (by omega), xA_p (by omega), xA_p (by omega), xB_s]
      have q2 := (Q1.1.2.1 c h1.1 (by omega)).2.2.2.2.2
      rw [show 54 * (0 : Int) + 6 * c + 5 = 6 * c + 5 by omega] at q2
      show some ((xwr m1 310 0 0) (310 + 8) (6 * c + 5), _) = _
      rw [q2, fD_bit_s _ M h1.1 (by omega)]
    · have dd : (if a < 0 then some ((-2 : Int), M) else if 1 < a then some (-2, M) else (xB (fD_settle 1 (xwr M (1 + 15) 4 (xor32 (xand (M (1 + 15) 4) (xxor (xshl 1 c) (-1))) (xshl a c)))) (fun m3 => some (fD_bit (M (1 + 15) 4) c M, m3)))) = some (-2, M) := by
        by_cases y : a < 0
        · rw [if_pos y]
        · rw [if_neg y, if_pos (by omega)]
      rw [dd]
      refine xC3_k S ?_ K
      unfold fQ_vow
      rw [qCell_s (xQ0_kp Q K) W, qSide_s]
      simp only [if10]
      rw [if_neg (not_not_intro h1), if_pos h2]
  · rw [if_pos h1]
    refine xC3_k S ?_ K
    unfold fQ_vow
    rw [qCell_s (xQ0_kp Q K) W]
    simp only [if10]
    rw [if_pos h1]
theorem call_53 {M : xM} (S : Sim M) (c a : Int) : xC3 (fD_quarrel 1 c a M) (fQ_quarrel 310 c a) M := by
  have K : xKp M (xwr M 310 0 0) := xKp_w (xKp_rfl M) (by decide) (by decide) (by decide)
  have W := S.2.2.1.1
  have Q := S.2.2.1.2
  have hN := W.1.1
  have hv : xPv M (1 + 15) (xVw M 16) := xPv_V M 16
  unfold fD_quarrel
  rw [hasCell_s, xPv_0 hv 0 (by decide) (by decide)]
  simp only [if10]
  by_cases h1 : 0 ≤ c ∧ c < xVw M 16 0 0
  · rw [if_neg (not_not_intro h1), nb_s hv W.1 h1.1 h1.2]
    by_cases h2 : a = 0 ∨ a = 1
    · rw [if_neg (show ¬ a < 0 by omega), if_neg (show ¬ 1 < a by omega)]
      by_cases h3 : xnb (xVw M 16 0 0) (xVw M 16 0 3) c 1 = -1
      · rw [if_pos h3]
        refine xC3_k S ?_ K
        unfold fQ_quarrel
        rw [qCell_s (xQ0_kp Q K) W, qSide_s, xnvQ (xQ0_kp Q K) W h1.1 h1.2 (Or.inr rfl), xB_s]
        simp only [if10]
        rw [if_neg (not_not_intro h1), if_neg (not_not_intro h2), if_pos (show xnv (xVw M 16) c 1 = -1 from h3)]
      · have r5 := W.2.2.2.2.2.2.2.2.2.1
        have r9 := quar_9 W
        have rg := msk_rg (n := (xVw M 16 0 0).toNat) h2 r5.1 r5.2 (by omega) h1.1 (show c < (((xVw M 16 0 0).toNat : Nat) : Int) by omega)
        have rg9 := msk_rg (n := 9) h2 r9.1 r9.2 (by decide) h1.1 (show c < 9 by omega)
        obtain ⟨m1, e1, z1, f1, z2, T⟩ := set_s S (r := 0) (i := 5) (v := xor32 (xand (xVw M 16 0 5) (xxor (xshl 1 c) (-1))) (xshl a c)) (b := 7) (j := 4) (u := xor32 (xand (xVw M 16 0 5) (xxor (xshl 1 c) (-1))) (xshl a c)) (by decide) (by decide) (WE_05 W rg.1 rg.2 rg9.2) (by omega) (fun m hm => Q0_05 hm)
        have Q1 : xQ0 (xwr m1 310 0 0) 310 0 (xVw M 16) := ⟨xQd_go Q.1 (fun a a0 a1 => by rw [xwr_a _ (by omega), f1 a (by omega)]), by rw [xwr_a _ (by omega), f1 _ (by omega)]; exact Q.2⟩
        have q4 : (xwr m1 310 0 0) (310 + 7) 4 = xVw M 16 0 5 := Q1.1.1.2.2.2.1
        rw [if_neg h3]
        refine ⟨fD_bit (xVw M 16 0 5) c M, m1, _, by show xB (fD_settle 1 (xwr M (16 + 0) 5 (xor32 (xand (xVw M 16 0 5) (xxor (xshl 1 c) (-1))) (xshl a c)))) _ = _; rw [e1]; rfl, z1, ?_, z2, T⟩
        unfold fQ_quarrel
        rw [qCell_s Q1 W, qSide_s, xnvQ Q1 W h1.1 h1.2 (Or.inr rfl), xB_s, q4]
        simp only [if10]
        rw [if_neg (not_not_intro h1), if_neg (not_not_intro h2), if_neg (show ¬ xnv (xVw M 16) c 1 = -1 from h3)]
        rcases h2 with e | e
        · rw [if_neg (by omega), show xor32 (xand (xVw M 16 0 5) (xxor (xshl 1 c) (-1))) (xshl a c) = xand (xVw M 16 0 5) (xxor (xshl 1 c) (-1)) from xbt_ext (xor_in _ _) (xand_in _ _) (fun d d0 d1 => by rw [e, xbt_or, xshl_0, xbt_0, Bool.or_false])]
          rfl
        · rw [if_pos e, show xor32 (xand (xVw M 16 0 5) (xxor (xshl 1 c) (-1))) (xshl a c) = xor32 (xVw M 16 0 5) (xshl 1 c) from xbt_ext (xor_in _ _) (xor_in _ _) (fun d d0 d1 => by
            rw [msk_b (Or.inr e) h1.1 (by omega) d0 d1, xbt_or, xbt_shl1 h1.1 (by omega) d0 d1]
            by_cases x : d = c
            · simp [x, e]
            · simp [x])]
          rfl
    · have dd : (if a < 0 then some ((-2 : Int), M) else if 1 < a then some (-2, M) else if xnb (xVw M 16 0 0) (xVw M 16 0 3) c 1 = -1 then some (-2, M) else (xB (fD_settle 1 (xwr M (1 + 15) 5 (xor32 (xand (M (1 + 15) 5) (xxor (xshl 1 c) (-1))) (xshl a c)))) (fun m4 => some (fD_bit (M (1 + 15) 5) c M, m4)))) = some (-2, M) := by
        by_cases y : a < 0
        · rw [if_pos y]
        · rw [if_neg y, if_pos (by omega)]
      rw [dd]
      refine xC3_k S ?_ K
      unfold fQ_quarrel
      rw [qCell_s (xQ0_kp Q K) W, qSide_s]
      simp only [if10]
      rw [if_neg (not_not_intro h1), if_pos h2]
  · rw [if_pos h1]
    refine xC3_k S ?_ K
    unfold fQ_quarrel
    rw [qCell_s (xQ0_kp Q K) W]
    simp only [if10]
    rw [if_pos h1]
end
