/-! a line, on both sides: cell -/
noncomputable section
def yKd (f : Int → Int) (a e k : Int) : Int := if yis f a e k (xstr (18 : Int).toNat) = true then 0 else if yis f a e k (xstr (19 : Int).toNat) = true then 1 else if yis f a e k (xstr (20 : Int).toNat) = true then 2 else if yis f a e k (xstr (21 : Int).toNat) = true then 3 else -1
theorem yKd_rg (f : Int → Int) (a e k : Int) : -1 ≤ yKd f a e k ∧ yKd f a e k ≤ 3 := by unfold yKd; (repeat' split) <;> decide
theorem kind_c {f : Int → Int} {L a e k : Int} {A B : xM} (al : yAl f L a e k A B) : fReader_takeKind 2 A = fReader_takeKind_L55 2 (yKd f a e k) A := by
  unfold fReader_takeKind yKd
  rw [isW_c (kk := 18) al, isW_c (kk := 19) al, isW_c (kk := 20) al, isW_c (kk := 21) al, xB_s, xB_s, xB_s, xB_s]
  by_cases y0 : yis f a e k (xstr (18 : Int).toNat) = true
  · rw [if_pos y0, if_neg (show ¬ (1 : Int) = 0 by decide), if_pos y0]
  · rw [if_neg y0, if_pos (show (0 : Int) = 0 from rfl), if_neg y0]
    by_cases y1 : yis f a e k (xstr (19 : Int).toNat) = true
    · rw [if_pos y1, if_neg (show ¬ (1 : Int) = 0 by decide), if_pos y1]
    · rw [if_neg y1, if_pos (show (0 : Int) = 0 from rfl), if_neg y1]
      by_cases y2 : yis f a e k (xstr (20 : Int).toNat) = true
      · rw [if_pos y2, if_neg (show ¬ (1 : Int) = 0 by decide), if_pos y2]
      · rw [if_neg y2, if_pos (show (0 : Int) = 0 from rfl), if_neg y2]
        by_cases y3 : yis f a e k (xstr (21 : Int).toNat) = true
        · rw [if_pos y3, if_pos y3]; rfl
        · rw [if_neg y3, if_neg y3]; rfl
theorem kind_q {f : Int → Int} {L a e k : Int} {A B : xM} (al : yAl f L a e k A B) : fQ_manLine 310 B = xB (fQ_hasRead 310 2 B) (fun v1 => fQ_manLine_L69 310 (xw32 (6 * (xw32 (36 + v1)))) (yKd f a e k) B) := by
  unfold fQ_manLine yKd
  rw [is_q al yW_18, is_q al yW_19, is_q al yW_20, is_q al yW_21]
  congr 1
  funext v1
  by_cases y0 : yis f a e k (xstr (18 : Int).toNat) = true
  · rw [if_pos y0, if_neg (show ¬ (1 : Int) = 0 by decide), if_pos y0]
  · rw [if_neg y0, if_pos (show (0 : Int) = 0 from rfl), if_neg y0]
    by_cases y1 : yis f a e k (xstr (19 : Int).toNat) = true
    · rw [if_pos y1, if_neg (show ¬ (1 : Int) = 0 by decide), if_pos y1]
    · rw [if_neg y1, if_pos (show (0 : Int) = 0 from rfl), if_neg y1]
      by_cases y2 : yis f a e k (xstr (20 : Int).toNat) = true
      · rw [if_pos y2, if_neg (show ¬ (1 : Int) = 0 by decide), if_pos y2]
      · rw [if_neg y2, if_pos (show (0 : Int) = 0 from rfl), if_neg y2]
        by_cases y3 : yis f a e k (xstr (21 : Int).toNat) = true
        · rw [if_pos y3, if_pos y3]; rfl
        · rw [if_neg y3, if_neg y3]; rfl
/-- a man more -/
def yMU (V : xM) (t kd n u l r y : Int) : xM := xwr (xwr (xwr (xwr (xwr (xwr V 1 t kd) 2 t n) 3 t u) 6 (2 * t) l) 6 (2 * t + 1) r) 0 4 y
theorem yMU_r (V : xM) (t kd n u l r y : Int) : (∀ a i : Int, a ≠ 0 → a ≠ 1 → a ≠ 2 → a ≠ 3 → a ≠ 6 → yMU V t kd n u l r y a i = V a i) ∧ (∀ i : Int, i ≠ 4 → yMU V t kd n u l r y 0 i = V 0 i) ∧ yMU V t kd n u l r y 0 4 = y ∧ (∀ d : Int, yMU V t kd n u l r y 1 d = if d = t then kd else V 1 d) ∧ (∀ d : Int, yMU V t kd n u l r y 2 d = if d = t then n else V 2 d) ∧ (∀ d : Int, yMU V t kd n u l r y 3 d = if d = t then u else V 3 d) ∧ (∀ d : Int, yMU V t kd n u l r y 6 d = if d = 2 * t + 1 then r else if d = 2 * t then l else V 6 d) := by
  unfold yMU
  refine ⟨fun a i h0 h1 h2 h3 h6 => ?_, fun i h => ?_, xwr_s _ _ _ _, fun d => ?_, fun d => ?_, fun d => ?_, fun d => ?_⟩
  · rw [xwr_n _ (by omega), xwr_n _ (by omega), xwr_n _ (by omega), xwr_n _ (by omega), xwr_n _ (by omega), xwr_n _ (by omega)]
  · rw [xwr_n _ (by omega), xwr_n _ (by omega), xwr_n _ (by omega), xwr_n _ (by omega), xwr_n _ (by omega), xwr_n _ (by omega)]
  · rw [xwr_n _ (by omega), xwr_n _ (by omega), xwr_n _ (by omega), xwr_n _ (by omega), xwr_n _ (by omega), xwr_at]
    by_cases e : d = t
    · rw [if_pos ⟨rfl, e⟩, if_pos e]
    · rw [if_neg (fun x => e x.2), if_neg e]
  · rw [xwr_n _ (by omega), xwr_n _ (by omega), xwr_n _ (by omega), xwr_n _ (by omega), xwr_at]
    by_cases e : d = t
    · rw [if_pos ⟨rfl, e⟩, if_pos e]
    · rw [if_neg (fun x => e x.2), if_neg e, xwr_n _ (by omega)]
  · rw [xwr_n _ (by omega), xwr_n _ (by omega), xwr_n _ (by omega), xwr_at]
    by_cases e : d = t
    · rw [if_pos ⟨rfl, e⟩, if_pos e]
    · rw [if_neg (fun x => e x.2), if_neg e, xwr_n _ (by omega), xwr_n _ (by omega)]
  · rw [xwr_n _ (by omega), xwr_at]
    by_cases e : d = 2 * t + 1
    · rw [if_pos ⟨rfl, e⟩, if_pos e]
    · rw [if_neg (fun x => e x.2), if_neg e, xwr_at]
      by_cases e2 : d = 2 * t
      · rw [if_pos ⟨rfl, e2⟩, if_pos e2]
      · rw [if_neg (fun x => e2 x.2), if_neg e2, xwr_n _ (by omega), xwr_n _ (by omega), xwr_n _ (by omega)]
theorem yCw_s {V m : xM} {t kd n u l r lo : Int} (hv : xPv m (2 + 3) V) (ht : m 2 6 = t) (t0 : 0 ≤ t) (t1 : t < 9) : ∃ m' : xM, yCw kd n u l r lo m = some m' ∧ xPv m' (2 + 3) (yMU V t kd n u l r (xor32 (V 0 4) (if lo = 0 then 0 else (xshl 1 t) : Int))) ∧ m' 2 6 = t + 1 ∧ (∀ j : Int, j ≠ 6 → m' 2 j = m 2 j) ∧ (∀ x : Int, x ≠ 2 → (x < 5 ∨ 15 < x) → m' x = m x) := by
  have w1 : ∀ (k : xM) (i v : Int), (xwr k ((2 + 3) + 1) i v) 2 = k 2 := fun k i v => xwr_a _ (by decide)
  have w2 : ∀ (k : xM) (i v : Int), (xwr k ((2 + 3) + 2) i v) 2 = k 2 := fun k i v => xwr_a _ (by decide)
  have w3 : ∀ (k : xM) (i v : Int), (xwr k ((2 + 3) + 3) i v) 2 = k 2 := fun k i v => xwr_a _ (by decide)
  have w6 : ∀ (k : xM) (i v : Int), (xwr k ((2 + 3) + 6) i v) 2 = k 2 := fun k i v => xwr_a _ (by decide)
  have w0 : ∀ (k : xM) (i v : Int), (xwr k (2 + 3) i v) 2 = k 2 := fun k i v => xwr_a _ (by decide)
  have v1 : ∀ (k : xM) (i v : Int), (xwr k ((2 + 3) + 1) i v) (2 + 3) = k (2 + 3) := fun k i v => xwr_a _ (by decide)
  have v2 : ∀ (k : xM) (i v : Int), (xwr k ((2 + 3) + 2) i v) (2 + 3) = k (2 + 3) := fun k i v => xwr_a _ (by decide)
  have v3 : ∀ (k : xM) (i v : Int), (xwr k ((2 + 3) + 3) i v) (2 + 3) = k (2 + 3) := fun k i v => xwr_a _ (by decide)
  have v6 : ∀ (k : xM) (i v : Int), (xwr k ((2 + 3) + 6) i v) (2 + 3) = k (2 + 3) := fun k i v => xwr_a _ (by decide)
  have a0 : xw32 (2 * t) = 2 * t := xw32_id (by omega) (by omega)
  have a1 : xw32 (2 * t + 0) = 2 * t := by rw [Int.add_zero]; exact a0
  have a2 : xw32 (2 * t + 1) = 2 * t + 1 := xw32_id (by omega) (by omega)
  have a3 : xw32 (t + 1) = t + 1 := xw32_id (by omega) (by omega)
  have z4 : m (2 + 3) 4 = V 0 4 := xPv_0 hv 4 (by decide) (by decide)
  unfold yCw
  simp only [w0, w1, w2, w3, w6, v1, v2, v3, v6, ht, z4, a0, a1, a2, a3]
  rw [xA_p (by omega), xA_p (by omega), xA_p (by omega), xA_p (by omega), xA_p (by omega)]
  refine ⟨_, rfl, ?_, xwr_s _ _ _ _, fun j hj => ?_, fun x x2 x5 => ?_⟩
  · refine xPv_go (xPv_w0 (xPv_w (xPv_w (xPv_w (xPv_w (xPv_w hv 1 t kd) 2 t n) 3 t u) 6 (2 * t) l) 6 (2 * t + 1) r) 4 _) (fun x x0 x1 => ?_)
    rw [xwr_a (a := 2) (b := x) _ (by omega)]
  · rw [xwr_n _ (by omega), xwr_a (a := 2 + 3) (b := 2) _ (by omega), xwr_a (a := 2 + 3 + 6) (b := 2) _ (by omega), xwr_a (a := 2 + 3 + 6) (b := 2) _ (by omega), xwr_a (a := 2 + 3 + 3) (b := 2) _ (by omega), xwr_a (a := 2 + 3 + 2) (b := 2) _ (by omega), xwr_a (a := 2 + 3 + 1) (b := 2) _ (by omega)]
  · rw [xwr_a (a := 2) (b := x) _ (by omega), xwr_a (a := 2 + 3) (b := x) _ (by omega), xwr_a (a := 2 + 3 + 6) (b := x) _ (by omega), xwr_a (a := 2 + 3 + 6) (b := x) _ (by omega), xwr_a (a := 2 + 3 + 3) (b := x) _ (by omega), xwr_a (a := 2 + 3 + 2) (b := x) _ (by omega), xwr_a (a := 2 + 3 + 1) (b := x) _ (by omega)]
theorem yMU_E {V : xM} {t kd n u l r y : Int} (W : xWE V) (k0 : 0 ≤ kd) (k3 : kd ≤ 3) (n0 : 0 ≤ n) (n9 : n ≤ 9) (kn : kd = 2 → 2 ≤ n) (u0 : 0 ≤ u) (u9 : u ≤ 9) (l0 : 0 ≤ l) (l9 : l ≤ 9) (r0 : 0 ≤ r) (r9 : r ≤ 9) (y0 : 0 ≤ y) (y1 : y < 512) : xWE (yMU V t kd n u l r y) := by
  obtain ⟨z, z0, z4, z1, z2, z3, z6⟩ := yMU_r V t kd n u l r y
  have z5 := fun i => z 5 i (by decide) (by decide) (by decide) (by decide) (by decide)
  have z8 := fun i => z 8 i (by decide) (by decide) (by decide) (by decide) (by decide)
  have z10 := fun i => z 10 i (by decide) (by decide) (by decide) (by decide) (by decide)
  unfold xWE xWF at W ⊢
  rw [z0 0 (by decide), z0 1 (by decide), z0 2 (by decide), z0 3 (by decide), z0 5 (by decide), z0 6 (by decide), z0 7 (by decide), z4]
  refine ⟨⟨W.1.1, W.1.2.1, W.1.2.2.1, W.1.2.2.2.1, fun d d0 d1 => ?_, fun d d0 d1 => ?_, fun d d0 d1 => by rw [z8]; exact W.1.2.2.2.2.2.2.1 d d0 d1, by unfold x32; omega, W.1.2.2.2.2.2.2.2.2.1, fun d d0 d1 => by rw [z10]; exact W.1.2.2.2.2.2.2.2.2.2 d d0 d1⟩, W.2.1, W.2.2.1, W.2.2.2.1, W.2.2.2.2.1, W.2.2.2.2.2.1, W.2.2.2.2.2.2.1, W.2.2.2.2.2.2.2.1, W.2.2.2.2.2.2.2.2.1, W.2.2.2.2.2.2.2.2.2.1, ⟨y0, y1⟩, fun d h d0 d1 h0 h1 hb => W.2.2.2.2.2.2.2.2.2.2.2.1 d h d0 d1 h0 h1 (by rw [z5] at hb; exact hb), fun d d0 d1 => by rw [z10]; exact W.2.2.2.2.2.2.2.2.2.2.2.2 d d0 d1⟩
  · obtain ⟨q1, q2, q3, q4, q5⟩ := W.1.2.2.2.2.1 d d0 d1
    rw [z1, z2, z3, z5]
    by_cases e : d = t
    · rw [if_pos e, if_pos e, if_pos e]
      exact ⟨⟨k0, k3⟩, ⟨n0, n9⟩, kn, ⟨u0, u9⟩, q5⟩
    · rw [if_neg e, if_neg e, if_neg e]
      exact ⟨q1, q2, q3, q4, q5⟩
  · have := W.1.2.2.2.2.2.1 d d0 d1
    rw [z6]
    (repeat' split) <;> omega
theorem yMU_Q {V m m' : xM} {t kd n u l r lo : Int} (Q : xQ0 m 310 4 V) (t0 : 0 ≤ t) (t1 : t < 9) (hlo : lo = 0 ∨ lo = 1) (hb : xbt (V 0 4) t = false) (f6 : m' (310 + 6) = m (310 + 6)) (f9 : m' (310 + 9) = m (310 + 9)) (f10 : m' (310 + 10) = m (310 + 10)) (f11 : m' (310 + 11) = m (310 + 11)) (f7 : ∀ j : Int, j ≠ 30 → m' (310 + 7) j = m (310 + 7) j) (f8 : ∀ j : Int, (j < 216 + 6 * t ∨ 221 + 6 * t < j) → m' (310 + 8) j = m (310 + 8) j) (g0 : m' (310 + 8) (216 + 6 * t) = kd) (g1 : m' (310 + 8) (216 + 6 * t + 1) = n) (g2 : m' (310 + 8) (216 + 6 * t + 2) = u) (g3 : m' (310 + 8) (216 + 6 * t + 3) = l) (g4 : m' (310 + 8) (216 + 6 * t + 4) = r) (g5 : m' (310 + 8) (216 + 6 * t + 5) = lo) : xQ0 m' 310 4 (yMU V t kd n u l r (xor32 (V 0 4) (if lo = 0 then 0 else (xshl 1 t) : Int))) := by
  obtain ⟨z, z0, z4, z1, z2, z3, z6⟩ := yMU_r V t kd n u l r (xor32 (V 0 4) (if lo = 0 then 0 else (xshl 1 t) : Int))
  have bt : ∀ d : Int, 0 ≤ d → d < 9 → xbt (xor32 (V 0 4) (if lo = 0 then 0 else (xshl 1 t) : Int)) d = (xbt (V 0 4) d || decide (d = t ∧ lo = 1)) := fun d d0 d1 => by
    rw [xbt_or]
    rcases hlo with rfl | rfl
    · rw [if_pos rfl, xbt_0]; simp
    · rw [if_neg (by decide), xbt_shl1 t0 (by omega) d0 (by omega)]; simp
  have nv : ∀ d s : Int, xnv (yMU V t kd n u l r (xor32 (V 0 4) (if lo = 0 then 0 else (xshl 1 t) : Int))) d s = xnv V d s := fun d s => by
    show xnb (yMU V t kd n u l r (xor32 (V 0 4) (if lo = 0 then 0 else (xshl 1 t) : Int)) 0 0) (yMU V t kd n u l r (xor32 (V 0 4) (if lo = 0 then 0 else (xshl 1 t) : Int)) 0 3) d s = _
    rw [z0 0 (by decide), z0 3 (by decide)]; rfl
  obtain ⟨⟨⟨a1, a2, a3, a4, a5, a6⟩, q2, q3, q4, q5, q6⟩, q7⟩ := Q
  refine ⟨⟨⟨by rw [f6, z0 2 (by decide)]; exact a1, by rw [f7 _ (by decide), z0 0 (by decide)]; exact a2, by rw [f7 _ (by decide), z0 1 (by decide)]; exact a3, by rw [f7 _ (by decide), z0 5 (by decide)]; exact a4, by rw [f7 _ (by decide), z0 6 (by decide)]; exact a5, by rw [f7 _ (by decide), z0 7 (by decide)]; exact a6⟩, fun d d0 d1 => ?_, fun d h d0 d1 h0 h1 => ?_, fun d d0 d1 => ?_, fun k x0 x1 => ?_, fun h h0 h1 => ?_⟩, by rw [f7 _ (by decide), z0 3 (by decide)]; exact q7⟩
  · rw [z1, z2, z3, z6, z6, z4, bt d d0 d1]
    by_cases e : d = t
    · subst e
      rw [show 54 * 4 + 6 * d = 216 + 6 * d by omega, g0, g1, g2, g3, g4, g5, if_pos rfl, if_pos rfl, if_pos rfl, if_neg (by omega), if_pos rfl, if_pos rfl, hb]
      refine ⟨rfl, rfl, rfl, rfl, rfl, ?_⟩
      rcases hlo with rfl | rfl <;> simp
    · obtain ⟨p0, p1, p2, p3, p4, p5⟩ := q2 d d0 d1
      rw [f8 _ (by omega), f8 _ (by omega), f8 _ (by omega), f8 _ (by omega), f8 _ (by omega), f8 _ (by omega), if_neg e, if_neg e, if_neg e, if_neg (by omega), if_neg (by omega), if_neg (by omega), if_neg (by omega), decide_eq_false (fun x => e x.1), Bool.or_false]
      exact ⟨p0, p1, p2, p3, p4, p5⟩
  · rw [f9, z 5 d (by decide) (by decide) (by decide) (by decide) (by decide), z0 6 (by decide)]
    exact q3 d h d0 d1 h0 h1
  · rw [xnk_a f9, z 4 d (by decide) (by decide) (by decide) (by decide) (by decide), z0 6 (by decide)]
    exact q4 d d0 d1
  · rw [z0 7 (by decide)] at x1
    rw [f10, z0 0 (by decide), nv, z 7 k (by decide) (by decide) (by decide) (by decide) (by decide), z 8 k (by decide) (by decide) (by decide) (by decide) (by decide), z 9 k (by decide) (by decide) (by decide) (by decide) (by decide)]
    exact q5 k x0 x1
  · rw [f11, z 10 h (by decide) (by decide) (by decide) (by decide) (by decide)]
    exact q6 h h0 h1
/-- from the temper on -/
theorem cell_t {f : Int → Int} {L a0 a e k kd n t X : Int} {V A0 B0 A B : xM} (al : yAl f L a e k A B) (D : yDt V A0 B0) (la : a0 ≤ a) (p2 : 2 ≤ V 0 0) (ht : A0 2 6 = t) (t1 : t < V 0 0) (hX : 216 + 6 * t = X) (fa : yFa A0 A) (gb : yGb B0 B) (bo : ∀ x : Int, x ≠ 310 → x ≠ 310 + 8 → B x = B0 x) (b8 : ∀ j : Int, j ≠ X → B (310 + 8) j = B0 (310 + 8) j) (b8X : B (310 + 8) X = kd) (k0 : 0 ≤ kd) (k3 : kd ≤ 3) (n0 : 0 ≤ n) (n9 : n ≤ 9) (kn : kd = 2 → 2 ≤ n) : ∃ A' B' : xM, fReader_readCell_L46 2 kd n A = some A' ∧ fQ_manLine_L122 310 X n (X + 1) (310 + 8) B = some B' ∧ yLo f L a0 V A0 B0 A' B' := by
  have W := D.2.1
  have hN := W.1.1
  have t0 : 0 ≤ t := by rw [← ht]; exact D.2.2.2.2.1
  have ga0 : yGa A0 A := yGa_F fa
  have own : ∀ j : Int, X ≤ j → yOwn (310 + 8) j := fun j hj => by unfold yOwn; omega
  rw [e_readCell46, e_q_manLine_L122, xA_p (by omega), xw32_id (x := X + 2) (by omega) (by omega), xw32_id (x := X + 3) (by omega) (by omega), xw32_id (x := X + 4) (by omega) (by omega), xw32_id (x := X + 5) (by omega) (by omega)]
  have al1 : yAl f L a e k A (xwr B (310 + 8) (X + 1) n) := yAl_o al (fun _ _ _ _ => rfl) rfl rfl (fun j _ _ => by rw [xwr_a _ (by decide)]) (xwr_a _ (by decide))
  have gb1 : yGb B0 (xwr B (310 + 8) (X + 1) n) := yGb_w gb _ (own _ (by omega))
  obtain ⟨u, u', A1, A2, B2, e1, e2, e3, fa2, fb2, -, c⟩ := wnum_s (lo := 0) (hi := 9) al1 yW_10 (by decide) (by decide)
  rw [e1, xB_s, e2, xB2_s, e3, xB2_s, xA_p (by omega)]
  have ga2 : yGa A0 A2 := yGa_t ga0 (yGa_F fa2)
  have gb2 : yGb B0 (xwr B2 (310 + 8) (X + 2) u') := yGb_w (yGb_t gb1 (yGb_F fb2)) _ (own _ (by omega))
  have d3 : ∀ q r s w z : Int, yGb B0 (xwr (xwr (xwr (xwr (xwr B2 (310 + 8) (X + 2) u') (310 + 8) (X + 3) q) (310 + 8) (X + 4) r) (310 + 8) (X + 5) s) (310 + 7) w z) ∨ w < 28 := fun q r s w z => by
    by_cases h : w < 28
    · exact Or.inr h
    · exact Or.inl (yGb_w (yGb_w (yGb_w (yGb_w gb2 _ (own _ (by omega))) _ (own _ (by omega))) _ (own _ (by omega))) _ (by unfold yOwn; omega))
  rcases c with ⟨eu, u0, u9, a2, e2', k2, l2, al2⟩ | d
  · subst eu
    have al2' : yAl f L a2 e2' k2 A2 (xwr B2 (310 + 8) (X + 2) u) := yAl_o al2 (fun _ _ _ _ => rfl) rfl rfl (fun j _ _ => by rw [xwr_a _ (by decide)]) (xwr_a _ (by decide))
    obtain ⟨l, l', A3, A4, B4, e4, e5, e6, fa4, fb4, -, c⟩ := wnum_s (lo := 0) (hi := 9) al2' yW_11 (by decide) (by decide)
    rw [e4, xB_s, e5, xB2_s, e6, xB2_s, xA_p (by omega)]
    have ga4 : yGa A0 A4 := yGa_t ga2 (yGa_F fa4)
    have gb4 : yGb B0 (xwr B4 (310 + 8) (X + 3) l') := yGb_w (yGb_t gb2 (yGb_F fb4)) _ (own _ (by omega))
    rcases c with ⟨el, l0, l9, a4, e4', k4, l4, al4⟩ | d
    · subst el
      have al4' : yAl f L a4 e4' k4 A4 (xwr B4 (310 + 8) (X + 3) l) := yAl_o al4 (fun _ _ _ _ => rfl) rfl rfl (fun j _ _ => by rw [xwr_a _ (by decide)]) (xwr_a _ (by decide))
      obtain ⟨r, r', A5, A6, B6, e7, e8, e9, fa6, fb6, -, c⟩ := wnum_s (lo := 0) (hi := 9) al4' yW_12 (by decide) (by decide)
      rw [e7, xB_s, e8, xB2_s, e9, xB2_s, xA_p (by omega)]
      have ga6 : yGa A0 A6 := yGa_t ga4 (yGa_F fa6)
      have gb6 : yGb B0 (xwr B6 (310 + 8) (X + 4) r') := yGb_w (yGb_t gb4 (yGb_F fb6)) _ (own _ (by omega))
      rcases c with ⟨er, r0, r9, a6, e6', k6, l6, al6⟩ | d
      · subst er
        have al6' : yAl f L a6 e6' k6 A6 (xwr B6 (310 + 8) (X + 4) r) := yAl_o al6 (fun _ _ _ _ => rfl) rfl rfl (fun j _ _ => by rw [xwr_a _ (by decide)]) (xwr_a _ (by decide))
        have fin : ∀ (lo a7 e7' k7 : Int) (A7 B7 : xM), (lo = 0 ∨ lo = 1) → a6 ≤ a7 → yAl f L a7 e7' k7 A7 B7 → yFa A6 A7 → yFb (xwr B6 (310 + 8) (X + 4) r) B7 → ∃ A' : xM, xB (fReader_takeSign 2 A7) (fun m11 => if (m11 2 7) = (0 : Int) then (yCw kd n u l r lo m11) else (some m11)) = some A' ∧ yLo f L a0 V A0 B0 A' (xwr (xwr B7 (310 + 8) (X + 5) (if lo = 0 then 0 else 1 : Int)) (310 + 7) 30 (xw32 (((xwr B7 (310 + 8) (X + 5) (if lo = 0 then 0 else 1 : Int)) (310 + 7) 30) + 1))) := by
          intro lo a7 e7' k7 A7 B7 hlo l7 al7 fa7 fb7
          have elo : (if lo = 0 then 0 else 1 : Int) = lo := by rcases hlo with rfl | rfl <;> rfl
          have q30 : (xwr B7 (310 + 8) (X + 5) lo) (310 + 7) 30 = t := by
            rw [xwr_a _ (by decide), fb7.1 (310 + 7) (by decide), xwr_a _ (by decide), fb6.1 (310 + 7) (by decide), xwr_a _ (by decide), fb4.1 (310 + 7) (by decide), xwr_a _ (by decide), fb2.1 (310 + 7) (by decide), xwr_a _ (by decide), bo _ (by decide) (by decide), ← D.2.2.2.1]
            exact ht
          have z8 : ∀ j : Int, (xwr B7 (310 + 8) (X + 5) lo) (310 + 8) j = if j = X + 5 then lo else if j = X + 4 then r else if j = X + 3 then l else if j = X + 2 then u else if j = X + 1 then n else B (310 + 8) j := fun j => by
            rw [xwr_at, fb7.1 (310 + 8) (by decide), xwr_at, fb6.1 (310 + 8) (by decide), xwr_at, fb4.1 (310 + 8) (by decide), xwr_at, fb2.1 (310 + 8) (by decide), xwr_at]
            (repeat' split) <;> first | rfl | (exfalso; omega)
          have zo : ∀ x : Int, x ≠ 310 → x ≠ 310 + 8 → (xwr B7 (310 + 8) (X + 5) lo) x = B0 x := fun x h1 h2 => by
            rw [xwr_a _ h2, fb7.1 x h1, xwr_a _ h2, fb6.1 x h1, xwr_a _ h2, fb4.1 x h1, xwr_a _ h2, fb2.1 x h1, xwr_a _ h2, bo x h1 h2]
          have ga7 : yGa A0 A7 := yGa_t ga6 (yGa_F fa7)
          have gb7 : yGb B0 (xwr (xwr B7 (310 + 8) (X + 5) lo) (310 + 7) 30 (t + 1)) := yGb_w (yGb_w (yGb_t gb6 (yGb_F fb7)) _ (own _ (by omega))) _ (by unfold yOwn; omega)
          have D7 : xPv A7 (2 + 3) V ∧ A7 2 6 = t := ⟨xPv_go D.1 (fun x _ _ => by rw [fa7.1 x (by omega), fa6.1 x (by omega), fa4.1 x (by omega), fa2.1 x (by omega), fa.1 x (by omega)]), by rw [fa7.2, fa6.2, fa4.2, fa2.2, fa.2]; exact ht⟩
          rw [elo, q30, xw32_id (x := t + 1) (by omega) (by omega)]
          obtain ⟨A', y1, y2⟩ := lend_s (V := V) (A := A0) (B := B0) (B3 := xwr (xwr B7 (310 + 8) (X + 5) lo) (310 + 7) 30 (t + 1)) (W := fun m => yCw kd n u l r lo m) al7 ga7 gb7 (by rw [xwr_a _ (by decide), xwr_a _ (by decide)]) (by rw [xwr_a _ (by decide), xwr_a _ (by decide)]) (fun A8 B8 fa8 fb8 _ => by
            obtain ⟨m', w1, w2, w3, w4, w5⟩ := yCw_s (V := V) (m := A8) (t := t) (kd := kd) (n := n) (u := u) (l := l) (r := r) (lo := lo) (xPv_go D7.1 (fun x _ _ => fa8.1 x (by omega))) (by rw [fa8.2]; exact D7.2) t0 (by omega)
            have ly := W.2.2.2.2.2.2.2.2.2.2.1
            have lb := D.2.2.2.2.2.2
            rw [ht] at lb
            have yb : 0 ≤ xor32 (V 0 4) (if lo = 0 then 0 else (xshl 1 t) : Int) ∧ xor32 (V 0 4) (if lo = 0 then 0 else (xshl 1 t) : Int) < 512 := by
              rcases hlo with rfl | rfl
              · rw [if_pos rfl, xor_0r (by unfold x32; omega)]; exact ly
              · rw [if_neg (by decide)]; exact xad_rg (n := 9) ly.1 ly.2 t0 (by omega) (by decide)
            obtain ⟨z, z0, z4, z1, z2, z3, z6⟩ := yMU_r V t kd n u l r (xor32 (V 0 4) (if lo = 0 then 0 else (xshl 1 t) : Int))
            refine ⟨m', yMU V t kd n u l r (xor32 (V 0 4) (if lo = 0 then 0 else (xshl 1 t) : Int)), w1, fun x x2 x5 => by rw [w5 x x2 x5, fa8.1 x x2]; exact ga7.1 x x2 x5, w4, ⟨w2, yMU_E W k0 k3 n0 n9 kn u0 u9 l0 l9 r0 r9 yb.1 yb.2, ?_, ?_, ?_, ?_, ?_⟩, z0 2 (by decide), by rw [z0 0 (by decide)]; exact p2⟩
            · refine xQ0_c (yMU_Q (m' := xwr (xwr B7 (310 + 8) (X + 5) lo) (310 + 7) 30 (t + 1)) D.2.2.1 t0 (by omega) hlo (lb t (Int.le_refl _) (by omega)) ?_ ?_ ?_ ?_ (fun j hj => ?_) (fun j hj => ?_) ?_ ?_ ?_ ?_ ?_ ?_) (fun x _ _ => fb8.1 x (by omega))
              · rw [xwr_a _ (by decide), zo _ (by decide) (by decide)]
              · rw [xwr_a _ (by decide), zo _ (by decide) (by decide)]
              · rw [xwr_a _ (by decide), zo _ (by decide) (by decide)]
              · rw [xwr_a _ (by decide), zo _ (by decide) (by decide)]
              · rw [xwr_n _ (by omega), zo _ (by decide) (by decide)]
              · rw [xwr_a _ (by decide), z8, if_neg (by omega), if_neg (by omega), if_neg (by omega), if_neg (by omega), if_neg (by omega), b8 j (by omega)]
              · rw [xwr_a _ (by decide), z8, if_neg (by omega), if_neg (by omega), if_neg (by omega), if_neg (by omega), if_neg (by omega), hX, b8X]
              · rw [xwr_a _ (by decide), z8, if_neg (by omega), if_neg (by omega), if_neg (by omega), if_neg (by omega), if_pos (by omega)]
              · rw [xwr_a _ (by decide), z8, if_neg (by omega), if_neg (by omega), if_neg (by omega), if_pos (by omega)]
              · rw [xwr_a _ (by decide), z8, if_neg (by omega), if_neg (by omega), if_pos (by omega)]
              · rw [xwr_a _ (by decide), z8, if_neg (by omega), if_pos (by omega)]
              · rw [xwr_a _ (by decide), z8, if_pos (by omega)]
            · rw [w3, fb8.1 (310 + 7) (by decide), xwr_s]
            · rw [w3]; omega
            · rw [w3, z0 0 (by decide)]; omega
            · intro d q0 q1
              rw [w3] at q0
              rw [z4, xbt_or, lb d (by omega) q1, Bool.false_or]
              rcases hlo with rfl | rfl
              · rw [if_pos rfl, xbt_0]
              · rw [if_neg (by decide), xbt_shl1 t0 (by omega) (by omega) (by omega)]
                exact decide_eq_false (by omega))
          exact ⟨A', y1, yLo_n (yGa_r _) (yGb_r _) y2 (by omega)⟩
        rw [isW_c (kk := 13) al6', xB_s]
        by_cases yl : yis f a6 e6' k6 (xstr (13 : Int).toNat) = true
        · obtain ⟨A7, B7, g1, -, g2, -, fa7, fb7, a7, e7', k7, l7, al7⟩ := word_t al6' yW_13 yl
          obtain ⟨A', h1, h2⟩ := fin 1 a7 e7' k7 A7 B7 (Or.inr rfl) (by omega) al7 fa7 fb7
          rw [if_pos yl, if_neg (show ¬ (1 : Int) = 0 by decide), g1, xB_s, g2, xB2_s, xA_p (by omega), h1]
          exact ⟨A', _, rfl, rfl, h2⟩
        · obtain ⟨-, -, -, g2, -⟩ := word_n al6' yW_13 yl
          obtain ⟨A', h1, h2⟩ := fin 0 a6 e6' k6 A6 _ (Or.inl rfl) (Int.le_refl _) al6' (yFa_r _) (yFb_r _)
          rw [if_neg yl, if_pos (show (0 : Int) = 0 from rfl), g2, xB2_s, xA_p (by omega), h1]
          exact ⟨A', _, rfl, rfl, h2⟩
      · obtain ⟨v, g1, -⟩ := isW_d d.2.1 13
        have h6 : (xwr B6 (310 + 8) (X + 4) r') 310 12 ≠ 0 := by rw [xwr_a _ (by decide)]; exact yDe_q d
        rw [g1, xB_s, tw_d d.2.1, xB_s, ts_d d.2.1, xB_s, if_neg d.2.1.1, takes_d h6, xB2_s, xA_p (by omega)]
        refine ⟨A6, _, by split <;> rfl, rfl, ga6, yGb_w (yGb_w gb6 _ (own _ (by omega))) _ (by unfold yOwn; omega), Or.inl (yDe_o d rfl rfl rfl (fun j _ _ => by rw [xwr_a _ (by decide), xwr_a _ (by decide), xwr_a _ (by decide)]) (by rw [xwr_a _ (by decide), xwr_a _ (by decide), xwr_a _ (by decide)]))⟩
    · obtain ⟨v, g1, -⟩ := isW_d d.2.1 13
      have h4 : (xwr B4 (310 + 8) (X + 3) l') 310 12 ≠ 0 := by rw [xwr_a _ (by decide)]; exact yDe_q d
      have h5 : ∀ q : Int, (xwr (xwr B4 (310 + 8) (X + 3) l') (310 + 8) (X + 4) q) 310 12 ≠ 0 := fun q => by rw [xwr_a _ (by decide)]; exact h4
      rw [tw_d d.2.1, xB_s, tn_d d.2.1, xB2_s, g1, xB_s, tw_d d.2.1, xB_s, ts_d d.2.1, xB_s, if_neg d.2.1.1, num3_d h4, xB2_s, xA_p (by omega), takes_d (h5 _), xB2_s, xA_p (by omega)]
      refine ⟨A4, _, by split <;> rfl, rfl, ga4, yGb_w (yGb_w (yGb_w gb4 _ (own _ (by omega))) _ (own _ (by omega))) _ (by unfold yOwn; omega), Or.inl (yDe_o d rfl rfl rfl (fun j _ _ => by rw [xwr_a _ (by decide), xwr_a _ (by decide), xwr_a _ (by decide), xwr_a _ (by decide)]) (by rw [xwr_a _ (by decide), xwr_a _ (by decide), xwr_a _ (by decide), xwr_a _ (by decide)]))⟩
  · obtain ⟨v, g1, -⟩ := isW_d d.2.1 13
    have h2 : (xwr B2 (310 + 8) (X + 2) u') 310 12 ≠ 0 := by rw [xwr_a _ (by decide)]; exact yDe_q d
    have h3 : ∀ q : Int, (xwr (xwr B2 (310 + 8) (X + 2) u') (310 + 8) (X + 3) q) 310 12 ≠ 0 := fun q => by rw [xwr_a _ (by decide)]; exact h2
    have h4 : ∀ q r : Int, (xwr (xwr (xwr B2 (310 + 8) (X + 2) u') (310 + 8) (X + 3) q) (310 + 8) (X + 4) r) 310 12 ≠ 0 := fun q r => by rw [xwr_a _ (by decide)]; exact h3 q
    rw [tw_d d.2.1, xB_s, tn_d d.2.1, xB2_s, tw_d d.2.1, xB_s, tn_d d.2.1, xB2_s, g1, xB_s, tw_d d.2.1, xB_s, ts_d d.2.1, xB_s, if_neg d.2.1.1, num3_d h2, xB2_s, xA_p (by omega), num3_d (h3 _), xB2_s, xA_p (by omega), takes_d (h4 _ _), xB2_s, xA_p (by omega)]
    refine ⟨A2, _, by split <;> rfl, rfl, ga2, yGb_w (yGb_w (yGb_w (yGb_w gb2 _ (own _ (by omega))) _ (own _ (by omega))) _ (own _ (by omega))) _ (by unfold yOwn; omega), Or.inl (yDe_o d rfl rfl rfl (fun j _ _ => by rw [xwr_a _ (by decide), xwr_a _ (by decide), xwr_a _ (by decide), xwr_a _ (by decide), xwr_a _ (by decide)]) (by rw [xwr_a _ (by decide), xwr_a _ (by decide), xwr_a _ (by decide), xwr_a _ (by decide), xwr_a _ (by decide)]))⟩
theorem cell46_d {A : xM} (h : yDa A) (kd n : Int) : fReader_readCell_L46 2 kd n A = some A := by
  obtain ⟨v, g1, -⟩ := isW_d h 13
  rw [e_readCell46, tw_d h, xB_s, tn_d h, xB2_s, tw_d h, xB_s, tn_d h, xB2_s, tw_d h, xB_s, tn_d h, xB2_s, g1, xB_s, tw_d h, xB_s, ts_d h, xB_s, if_neg h.1]
  split <;> rfl
theorem man122_d {B : xM} (h : B 310 12 ≠ 0) {X n : Int} (x0 : 216 ≤ X) (x1 : X < 265) : ∃ u l r lo z : Int, fQ_manLine_L122 310 X n (X + 1) (310 + 8) B = some (xwr (xwr (xwr (xwr (xwr (xwr B (310 + 8) (X + 1) n) (310 + 8) (X + 2) u) (310 + 8) (X + 3) l) (310 + 8) (X + 4) r) (310 + 8) (X + 5) lo) (310 + 7) 30 z) := by
  have h1 : (xwr B (310 + 8) (X + 1) n) 310 12 ≠ 0 := by rw [xwr_a _ (by decide)]; exact h
  have h2 : ∀ q : Int, (xwr (xwr B (310 + 8) (X + 1) n) (310 + 8) (X + 2) q) 310 12 ≠ 0 := fun q => by rw [xwr_a _ (by decide)]; exact h1
  have h3 : ∀ q r : Int, (xwr (xwr (xwr B (310 + 8) (X + 1) n) (310 + 8) (X + 2) q) (310 + 8) (X + 3) r) 310 12 ≠ 0 := fun q r => by rw [xwr_a _ (by decide)]; exact h2 q
  have h4 : ∀ q r s : Int, (xwr (xwr (xwr (xwr B (310 + 8) (X + 1) n) (310 + 8) (X + 2) q) (310 + 8) (X + 3) r) (310 + 8) (X + 4) s) 310 12 ≠ 0 := fun q r s => by rw [xwr_a _ (by decide)]; exact h3 q r
  rw [e_q_manLine_L122, xA_p (by omega), xw32_id (x := X + 2) (by omega) (by omega), xw32_id (x := X + 3) (by omega) (by omega), xw32_id (x := X + 4) (by omega) (by omega), xw32_id (x := X + 5) (by omega) (by omega), num3_d h1, xB2_s, xA_p (by omega), num3_d (h2 _), xB2_s, xA_p (by omega), num3_d (h3 _ _), xB2_s, xA_p (by omega), takes_d (h4 _ _ _), xB2_s, xA_p (by omega)]
  exact ⟨_, _, _, _, _, rfl⟩
theorem cell_s {f : Int → Int} {L a e k : Int} {V A B : xM} (al0 : yAl f L a e k A B) (D0 : yDt V A B) (p2 : 2 ≤ V 0 0) (y : yis f a e k (xstr (0 : Int).toNat) = true) (t8 : A 2 6 < V 0 0) : ∃ B1 A' B' : xM, fQ_next 310 B = some B1 ∧ fReader_readCell 2 A = some A' ∧ fQ_manLine 310 B1 = some B' ∧ yLo f L a V A B A' B' := by
  obtain ⟨A1, B1, e1, en, -, -, fa, fb, a1, e1', k1, l1, al⟩ := word_t al0 yW_0 y
  have D := yDt_F D0 fa fb
  have W := D.2.1
  have hN := W.1.1
  have kr := yKd_rg f a1 e1' k1
  have cN : A (2 + 3) 0 = V 0 0 := xPv_0 D0.1 0 (by decide) (by decide)
  have t0 := D0.2.2.2.2.1
  have qT : B1 (310 + 7) (28 + 2) = A 2 6 := by rw [← fa.2]; exact D.2.2.2.1.symm
  refine ⟨B1, ?_⟩
  rw [en, e_readCell, cN, if_pos t8, e1, xB_s, kind_c al, kind_q al, hasRead_s B1 2 (by decide) (by decide), xB_s, qT, xw32_id (x := 36 + A 2 6) (by omega) (by omega), xw32_id (x := 6 * (36 + A 2 6)) (by omega) (by omega), e_q_manLine_L69, show 6 * (36 + A 2 6) = 216 + 6 * A 2 6 by omega, xw32_id (x := 216 + 6 * A 2 6 + 1) (by omega) (by omega)]
  unfold fReader_takeKind_L55
  generalize hX : 216 + 6 * A 2 6 = X
  by_cases z : yKd f a1 e1' k1 = -1
  · obtain ⟨d, fa2, fb2, c12⟩ := fail_s (c := 1) al (by decide)
    rw [if_pos z, adv_d d.2.1, xB_s, xB2_s, z, if_neg (show ¬ (-1 : Int) = 2 by decide), cell46_d d.2.1, if_pos (show (-1 : Int) = -1 from rfl), if_neg (yDe_q d)]
    exact ⟨_, _, rfl, rfl, rfl, yGa_t (yGa_F fa) (yGa_F fa2), yGb_t (yGb_F fb) (yGb_F fb2), Or.inl d⟩
  · obtain ⟨A2, B2, a2, e2', k2, e2, e3, al2, l2, fa2, fb2⟩ := adv_s al
    have l12 : a1 ≤ a2 := by have := (yAl_rg al).2.1; omega
    rw [if_neg z, e2, xB_s, xB2_s, if_neg z, if_pos al.2.2.1.1, e3, xB_s, xA_p (by omega)]
    have al2' : yAl f L a2 e2' k2 A2 (xwr B2 (310 + 8) X (yKd f a1 e1' k1)) := yAl_o al2 (fun _ _ _ _ => rfl) rfl rfl (fun j _ _ => by rw [xwr_a _ (by decide)]) (xwr_a _ (by decide))
    have gb2 : yGb B (xwr B2 (310 + 8) X (yKd f a1 e1' k1)) := yGb_w (yGb_t (yGb_F fb) (yGb_F fb2)) _ (by unfold yOwn; omega)
    by_cases m : yKd f a1 e1' k1 = 2
    · obtain ⟨n, n', A3, B3, e4, e5, fa3, fb3, c⟩ := num_s (lo := 2) (hi := 9) al2' (by decide) (by decide)
      rw [if_pos m, if_pos m, e4, xB2_s, e5, xB2_s]
      rcases c with ⟨en', n0, n9, a3, e3', k3, l3, al3⟩ | d
      · subst en'
        obtain ⟨A', B', g1, g2, g3⟩ := cell_t (a0 := a) (kd := yKd f a1 e1' k1) (n := n) (t := A 2 6) al3 D0 (by omega) p2 rfl t8 hX (yFa_t fa (yFa_t fa2 fa3)) (yGb_t gb2 (yGb_F fb3)) (fun x h1 h2 => by rw [fb3.1 x h1, xwr_a _ h2, fb2.1 x h1, fb.1 x h1]) (fun j hj => by rw [fb3.1 (310 + 8) (by decide), xwr_n _ (by omega), fb2.1 (310 + 8) (by decide), fb.1 (310 + 8) (by decide)]) (by rw [fb3.1 (310 + 8) (by decide), xwr_s]) (by omega) (by omega) (by omega) n9 (fun _ => n0)
        rw [g1, g2]
        exact ⟨A', B', rfl, rfl, rfl, g3⟩
      · obtain ⟨u, l, r, lo, w, g1⟩ := man122_d (X := X) (n := n') (yDe_q d) (by omega) (by omega)
        rw [cell46_d d.2.1, g1]
        exact ⟨A3, _, rfl, rfl, rfl, yGa_t (yGa_F fa) (yGa_t (yGa_F fa2) (yGa_F fa3)), yGb_w (yGb_w (yGb_w (yGb_w (yGb_w (yGb_w (yGb_t gb2 (yGb_F fb3)) _ (by unfold yOwn; omega)) _ (by unfold yOwn; omega)) _ (by unfold yOwn; omega)) _ (by unfold yOwn; omega)) _ (by unfold yOwn; omega)) _ (by unfold yOwn; omega), Or.inl (yDe_o d rfl rfl rfl (fun j _ _ => by rw [xwr_a _ (by decide), xwr_a _ (by decide), xwr_a _ (by decide), xwr_a _ (by decide), xwr_a _ (by decide), xwr_a _ (by decide)]) (by rw [xwr_a _ (by decide), xwr_a _ (by decide), xwr_a _ (by decide), xwr_a _ (by decide), xwr_a _ (by decide), xwr_a _ (by decide)]))⟩
    · obtain ⟨A', B', g1, g2, g3⟩ := cell_t (a0 := a) (kd := yKd f a1 e1' k1) (n := 0) (t := A 2 6) al2' D0 (by omega) p2 rfl t8 hX (yFa_t fa fa2) gb2 (fun x h1 h2 => by rw [xwr_a _ h2, fb2.1 x h1, fb.1 x h1]) (fun j hj => by rw [xwr_n _ (by omega), fb2.1 (310 + 8) (by decide), fb.1 (310 + 8) (by decide)]) (xwr_s _ _ _ _) (by omega) (by omega) (by decide) (by decide) (fun h => absurd h m)
      rw [if_neg m, if_neg m, g1, g2]
      exact ⟨A', B', rfl, rfl, rfl, g3⟩
/-- a cell too many -/
theorem cell_f {f : Int → Int} {L a e k : Int} {V A B : xM} (al : yAl f L a e k A B) (D : yDt V A B) (t8 : ¬ A 2 6 < V 0 0) : ∃ A' : xM, fReader_readCell 2 A = some A' ∧ yLo f L a V A B A' (fQ_fails 310 3 B) := by
  obtain ⟨d, fa, fb, -⟩ := fail_s (c := 3) al (by decide)
  have cN : A (2 + 3) 0 = V 0 0 := xPv_0 D.1 0 (by decide) (by decide)
  obtain ⟨v, g⟩ := tk_d d.2.1
  rw [e_readCell, cN, if_neg t8, tw_d d.2.1, xB_s, g, xB2_s]
  refine ⟨_, ?_, yGa_F fa, yGb_F fb, Or.inl d⟩
  rw [tn_d d.2.1, xB2_s, cell46_d d.2.1, cell46_d d.2.1]
  split <;> rfl
end
