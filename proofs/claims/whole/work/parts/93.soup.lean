/-! a line, on both sides: soup -/
noncomputable section
def yQt (v1 v2 s : Int) (mt : xM) : Option xM := xA (0 ≤ (xw32 (4 * (xw32 (32 + v1)))) ∧ (xw32 (4 * (xw32 (32 + v1)))) < 160) (xA (0 ≤ (xw32 ((xw32 (4 * (xw32 (32 + v1)))) + 1)) ∧ (xw32 ((xw32 (4 * (xw32 (32 + v1)))) + 1)) < 160) (xB2 (fQ_number2 310 1 9 (xwr (xwr mt (310 + 10) (xw32 (4 * (xw32 (32 + v1)))) v2) (310 + 10) (xw32 ((xw32 (4 * (xw32 (32 + v1)))) + 1)) s)) (fun v42 m42 => xA (0 ≤ (xw32 ((xw32 (4 * (xw32 (32 + v1)))) + 2)) ∧ (xw32 ((xw32 (4 * (xw32 (32 + v1)))) + 2)) < 160) (xB (fQ_hasRead 310 1 (xwr m42 (310 + 10) (xw32 ((xw32 (4 * (xw32 (32 + v1)))) + 2)) v42)) (fun v43 => xB2 (fQ_number3 310 257 0 (xw32 (v43 - 1)) (xwr m42 (310 + 10) (xw32 ((xw32 (4 * (xw32 (32 + v1)))) + 2)) v42)) (fun v44 m44 => xA (0 ≤ (xw32 ((xw32 (4 * (xw32 (32 + v1)))) + 3)) ∧ (xw32 ((xw32 (4 * (xw32 (32 + v1)))) + 3)) < 160) (some (xwr (xwr m44 (310 + 10) (xw32 ((xw32 (4 * (xw32 (32 + v1)))) + 3)) v44) (310 + 7) 34 (xw32 (((xwr m44 (310 + 10) (xw32 ((xw32 (4 * (xw32 (32 + v1)))) + 3)) v44) (310 + 7) 34) + 1))))))))))
def yQs (v1 v2 s : Int) (m3 : xM) : Option xM := if (m3 310 12) = 0 then (xB (fQ_besideIn 310 4 v2 s m3) (fun v35 => if v35 = (-1) then (if ((fQ_fails 310 2 m3) 310 12) = 0 then (xB (fQ_next 310 (fQ_fails 310 2 m3)) (fun m37 => yQt v1 v2 s m37)) else (some (fQ_fails 310 2 m3))) else (if (m3 310 12) = 0 then (xB (fQ_next 310 m3) (fun m41 => yQt v1 v2 s m41)) else (some m3)))) else (if (m3 310 12) = 0 then (xB (fQ_next 310 m3) (fun m45 => yQt v1 v2 s m45)) else (some m3))
def yQx (v1 v2 : Int) (m3 : xM) : Option xM := if ((fQ_fails 310 1 m3) 310 12) = 0 then (xB (fQ_besideIn 310 4 v2 (if (fQ_is 310 240023 m3) = 0 then 1 else 0 : Int) (fQ_fails 310 1 m3)) (fun v7 => if v7 = (-1) then (if ((fQ_fails 310 2 (fQ_fails 310 1 m3)) 310 12) = 0 then (xB (fQ_next 310 (fQ_fails 310 2 (fQ_fails 310 1 m3))) (fun m9 => yQt v1 v2 (if (fQ_is 310 240023 m3) = 0 then 1 else 0 : Int) m9)) else (some (fQ_fails 310 2 (fQ_fails 310 1 m3)))) else (if ((fQ_fails 310 1 m3) 310 12) = 0 then (xB (fQ_next 310 (fQ_fails 310 1 m3)) (fun m13 => yQt v1 v2 (if (fQ_is 310 240023 m3) = 0 then 1 else 0 : Int) m13)) else (some (fQ_fails 310 1 m3))))) else (if ((fQ_fails 310 1 m3) 310 12) = 0 then (xB (fQ_next 310 (fQ_fails 310 1 m3)) (fun m17 => yQt v1 v2 (if (fQ_is 310 240023 m3) = 0 then 1 else 0 : Int) m17)) else (some (fQ_fails 310 1 m3)))
theorem e_q_soup3 (M : xM) : fQ_soupLine 310 M = xB (fQ_hasRead 310 6 M) (fun v1 => xB2 (fQ_cellHere 310 M) (fun v2 m2 => xB (fQ_asks 310 3913426 m2) (fun m3 => if (fQ_is 310 240023 m3) = 0 then (if (fQ_is 310 9748424 m3) = 0 then (yQx v1 v2 m3) else (yQs v1 v2 (if (fQ_is 310 240023 m3) = 0 then 1 else 0 : Int) m3)) else (yQs v1 v2 (if (fQ_is 310 240023 m3) = 0 then 1 else 0 : Int) m3)))) := rfl
def ySr (vc : Int) (m3 : xM) : Option xM := xB (fReader_isWord 2 11 m3) (fun v4 => xB (fReader_isWord 2 11 m3) (fun v5 => if v5 = 0 then (xB (fReader_isWord 2 12 m3) (fun v6 => if (m3 2 7) = 0 then (if (if v6 = 0 then 0 else 1 : Int) = 0 then (xB (fReader_takeWord 2 (if (if v4 = 0 then 1 else 0 : Int) = 0 then 11 else 12 : Int) m3) (fun m8 => xB2 (fReader_takeNumber 2 1 9 m8) (fun v9 m9 => xB (fReader_takeWord 2 17 m9) (fun m10 => xB2 (fReader_takeNumber 2 0 (xw32 ((m10 (2 + 3) 1) - 1)) m10) (fun v11 m11 => xB (fReader_takeSign 2 m11) (fun m12 => if (m12 2 7) = 0 then (xB (fPrison_addSoup (2 + 3) (xw32 ((xw32 ((xw32 (2 * (fPrison_neighbour (2 + 3) vc (if v4 = 0 then 1 else 0 : Int) m3))) + 1)) - (if v4 = 0 then 1 else 0 : Int))) v9 v11 m12) (fun m13 => some m13)) else (some m12))))))) else (if (fPrison_neighbour (2 + 3) vc (if v4 = 0 then 1 else 0 : Int) m3) = (-1) then (xB (fReader_takeWord 2 (if (if v4 = 0 then 1 else 0 : Int) = 0 then 11 else 12 : Int) (fReader_fail 2 2 m3)) (fun m15 => xB2 (fReader_takeNumber 2 1 9 m15) (fun v16 m16 => xB (fReader_takeWord 2 17 m16) (fun m17 => xB2 (fReader_takeNumber 2 0 (xw32 ((m17 (2 + 3) 1) - 1)) m17) (fun v18 m18 => xB (fReader_takeSign 2 m18) (fun m19 => if (m19 2 7) = 0 then (xB (fPrison_addSoup (2 + 3) (xw32 ((xw32 ((xw32 (2 * (fPrison_neighbour (2 + 3) vc (if v4 = 0 then 1 else 0 : Int) m3))) + 1)) - (if v4 = 0 then 1 else 0 : Int))) v16 v18 m19) (fun m20 => some m20)) else (some m19))))))) else (xB (fReader_takeWord 2 (if (if v4 = 0 then 1 else 0 : Int) = 0 then 11 else 12 : Int) m3) (fun m21 => xB2 (fReader_takeNumber 2 1 9 m21) (fun v22 m22 => xB (fReader_takeWord 2 17 m22) (fun m23 => xB2 (fReader_takeNumber 2 0 (xw32 ((m23 (2 + 3) 1) - 1)) m23) (fun v24 m24 => xB (fReader_takeSign 2 m24) (fun m25 => if (m25 2 7) = 0 then (xB (fPrison_addSoup (2 + 3) (xw32 ((xw32 ((xw32 (2 * (fPrison_neighbour (2 + 3) vc (if v4 = 0 then 1 else 0 : Int) m3))) + 1)) - (if v4 = 0 then 1 else 0 : Int))) v22 v24 m25) (fun m26 => some m26)) else (some m25))))))))) else (xB (fReader_takeWord 2 (if (if v4 = 0 then 1 else 0 : Int) = 0 then 11 else 12 : Int) m3) (fun m27 => xB2 (fReader_takeNumber 2 1 9 m27) (fun v28 m28 => xB (fReader_takeWord 2 17 m28) (fun m29 => xB2 (fReader_takeNumber 2 0 (xw32 ((m29 (2 + 3) 1) - 1)) m29) (fun v30 m30 => xB (fReader_takeSign 2 m30) (fun m31 => if (m31 2 7) = 0 then (xB (fPrison_addSoup (2 + 3) (xw32 ((xw32 ((xw32 (2 * (fPrison_neighbour (2 + 3) vc (if v4 = 0 then 1 else 0 : Int) m3))) + 1)) - (if v4 = 0 then 1 else 0 : Int))) v28 v30 m31) (fun m32 => some m32)) else (some m31))))))))) else (fReader_readSoup_L82 2 vc (if v4 = 0 then 1 else 0 : Int) 1 m3)))
theorem e_readSoup3 (M : xM) : fReader_readSoup 2 M = if (M (2 + 3) 7) < 8 then (xB (fReader_takeWord 2 3 M) (fun m1 => xB2 (fReader_takeNumber 2 0 (xw32 ((m1 (2 + 3) 0) - 1)) m1) (fun v2 m2 => xB (fReader_takeWord 2 16 m2) (fun m3 => ySr v2 m3)))) else (xB (fReader_takeWord 2 3 (fReader_fail 2 3 M)) (fun m60 => xB2 (fReader_takeNumber 2 0 (xw32 ((m60 (2 + 3) 0) - 1)) m60) (fun v61 m61 => xB (fReader_takeWord 2 16 m61) (fun m62 => ySr v61 m62)))) := rfl
theorem ySr_l {vc v4 v6 : Int} {m3 : xM} (h1 : fReader_isWord 2 11 m3 = some v4) (h2 : fReader_isWord 2 12 m3 = some v6) : ySr vc m3 = fReader_readSoup_L82 2 vc (if v4 = 0 then 1 else 0 : Int) (if v4 = 0 then (if v6 = 0 then 0 else 1 : Int) else 1 : Int) m3 := by
  unfold ySr
  rw [h1, xB_s, xB_s]
  by_cases e : v4 = 0
  · subst e
    show xB (fReader_isWord 2 12 m3) _ = _
    rw [h2, xB_s, e_readSoup_L82]
    rfl
  · rw [if_neg e, if_neg e, if_neg e]
theorem L82_d {A : xM} (h : yDa A) (x1 x2 y0 : Int) : fReader_readSoup_L82 2 x1 x2 y0 A = some A := by
  rw [e_readSoup_L82, if_neg h.1, tw_d h, xB_s, tn_d h, xB2_s, tw_d h, xB_s, tn_d h, xB2_s, ts_d h, xB_s, if_neg h.1]
theorem ySr_d {A : xM} (h : yDa A) (vc : Int) : ySr vc A = some A := by
  obtain ⟨v4, e4, -⟩ := isW_d h 11
  obtain ⟨v6, e6, -⟩ := isW_d h 12
  rw [ySr_l e4 e6, L82_d h]
/-- a soup more -/
def ySo (V : xM) (b p h : Int) : xM := xwr (xwr (xwr (xwr V 7 (V 0 7) b) 8 (V 0 7) p) 9 (V 0 7) h) 0 7 (V 0 7 + 1)
theorem ySo_r (V : xM) (b p h : Int) : (∀ a i : Int, a ≠ 0 → (a < 7 ∨ 9 < a) → ySo V b p h a i = V a i) ∧ (∀ i : Int, i ≠ 7 → ySo V b p h 0 i = V 0 i) ∧ ySo V b p h 0 7 = V 0 7 + 1 ∧ (∀ d : Int, ySo V b p h 7 d = if d = V 0 7 then b else V 7 d) ∧ (∀ d : Int, ySo V b p h 8 d = if d = V 0 7 then p else V 8 d) ∧ (∀ d : Int, ySo V b p h 9 d = if d = V 0 7 then h else V 9 d) := by
  unfold ySo
  refine ⟨fun a i h0 h4 => ?_, fun i h => ?_, xwr_s _ _ _ _, fun d => ?_, fun d => ?_, fun d => ?_⟩
  · rw [xwr_n _ (by omega), xwr_n _ (by omega), xwr_n _ (by omega), xwr_n _ (by omega)]
  · rw [xwr_n _ (by omega), xwr_n _ (by omega), xwr_n _ (by omega), xwr_n _ (by omega)]
  · rw [xwr_n _ (by omega), xwr_n _ (by omega), xwr_n _ (by omega), xwr_at]
    by_cases e : d = V 0 7
    · rw [if_pos ⟨rfl, e⟩, if_pos e]
    · rw [if_neg (fun x => e x.2), if_neg e]
  · rw [xwr_n _ (by omega), xwr_n _ (by omega), xwr_at]
    by_cases e : d = V 0 7
    · rw [if_pos ⟨rfl, e⟩, if_pos e]
    · rw [if_neg (fun x => e x.2), if_neg e, xwr_n _ (by omega)]
  · rw [xwr_n _ (by omega), xwr_at]
    by_cases e : d = V 0 7
    · rw [if_pos ⟨rfl, e⟩, if_pos e]
    · rw [if_neg (fun x => e x.2), if_neg e, xwr_n _ (by omega), xwr_n _ (by omega)]
theorem addSoup_t {V m : xM} {q b p h : Int} (hv : xPv m q V) (n0 : 0 ≤ V 0 7) (n8 : V 0 7 ≤ 8) : ∃ m' : xM, fPrison_addSoup q b p h m = some m' ∧ xPv m' q (ySo V b p h) ∧ xF q (q + 10) m m' := by
  have z7 : m q 7 = V 0 7 := xPv_0 hv 7 (by decide) (by decide)
  have r1 : (xwr m (q + 7) (V 0 7) b) q 7 = V 0 7 := by rw [xwr_a _ (by omega)]; exact z7
  have r2 : (xwr (xwr m (q + 7) (V 0 7) b) (q + 8) (V 0 7) p) q 7 = V 0 7 := by rw [xwr_a _ (by omega)]; exact r1
  have r3 : (xwr (xwr (xwr m (q + 7) (V 0 7) b) (q + 8) (V 0 7) p) (q + 9) (V 0 7) h) q 7 = V 0 7 := by rw [xwr_a _ (by omega)]; exact r2
  refine ⟨_, ?_, xPv_w0 (xPv_w (xPv_w (xPv_w hv 7 (V 0 7) b) 8 (V 0 7) p) 9 (V 0 7) h) 7 (V 0 7 + 1), xwr_F (xwr_F (xwr_F (xwr_F (xF_rfl _ _ _) (by omega) (by omega)) (by omega) (by omega)) (by omega) (by omega)) (by omega) (by omega)⟩
  unfold fPrison_addSoup
  rw [z7, if_neg (by omega), xA_p (by omega), r1, xA_p (by omega), r2, xA_p (by omega), r3, xw32_id (by omega) (by omega)]
theorem ySo_E {V : xM} {b p h : Int} (W : xWE V) (n8 : V 0 7 < 8) (p0 : 0 ≤ p) (p9 : p ≤ 9) : xWE (ySo V b p h) := by
  obtain ⟨r1, r0, rn, r7, r8, r9⟩ := ySo_r V b p h
  have z1 := fun i => r1 1 i (by decide) (by decide)
  have z2 := fun i => r1 2 i (by decide) (by decide)
  have z3 := fun i => r1 3 i (by decide) (by decide)
  have z5 := fun i => r1 5 i (by decide) (by decide)
  have z6 := fun i => r1 6 i (by decide) (by decide)
  have z10 := fun i => r1 10 i (by decide) (by decide)
  have q4 := W.1.2.2.2.1
  unfold xWE xWF at W ⊢
  rw [r0 0 (by decide), r0 1 (by decide), r0 2 (by decide), r0 3 (by decide), r0 4 (by decide), r0 5 (by decide), r0 6 (by decide), rn]
  refine ⟨⟨W.1.1, W.1.2.1, W.1.2.2.1, by omega, fun d d0 d1 => by rw [z1, z2, z3, z5]; exact W.1.2.2.2.2.1 d d0 d1, fun d d0 d1 => by rw [z6]; exact W.1.2.2.2.2.2.1 d d0 d1, fun d d0 d1 => ?_, W.1.2.2.2.2.2.2.2.1, W.1.2.2.2.2.2.2.2.2.1, fun d d0 d1 => by rw [z10]; exact W.1.2.2.2.2.2.2.2.2.2 d d0 d1⟩, W.2.1, W.2.2.1, W.2.2.2.1, W.2.2.2.2.1, W.2.2.2.2.2.1, W.2.2.2.2.2.2.1, W.2.2.2.2.2.2.2.1, by omega, W.2.2.2.2.2.2.2.2.2.1, W.2.2.2.2.2.2.2.2.2.2.1, fun d h d0 d1 h0 h1 hb => W.2.2.2.2.2.2.2.2.2.2.2.1 d h d0 d1 h0 h1 (by rw [z5] at hb; exact hb), fun d d0 d1 => by rw [z10]; exact W.2.2.2.2.2.2.2.2.2.2.2.2 d d0 d1⟩
  have := W.1.2.2.2.2.2.2.1 d d0 d1
  rw [r8]
  split <;> omega
theorem ySo_Q {V m m' : xM} {c s p h : Int} (W : xWE V) (Q : xQ0 m 310 4 V) (n8 : V 0 7 < 8) (c0 : 0 ≤ c) (c1 : c < V 0 0) (hs : s = 0 ∨ s = 1) (hb : xnv V c s ≠ -1) (f6 : m' (310 + 6) = m (310 + 6)) (f8 : m' (310 + 8) = m (310 + 8)) (f9 : m' (310 + 9) = m (310 + 9)) (f11 : m' (310 + 11) = m (310 + 11)) (f7 : ∀ j : Int, j ≠ 34 → m' (310 + 7) j = m (310 + 7) j) (f34 : m' (310 + 7) 34 = V 0 7 + 1) (f10 : ∀ j : Int, j < 128 + 4 * V 0 7 → m' (310 + 10) j = m (310 + 10) j) (k0 : m' (310 + 10) (128 + 4 * V 0 7) = c) (k1 : m' (310 + 10) (128 + 4 * V 0 7 + 1) = s) (k2 : m' (310 + 10) (128 + 4 * V 0 7 + 2) = p) (k3 : m' (310 + 10) (128 + 4 * V 0 7 + 3) = h) : xQ0 m' 310 4 (ySo V (2 * xnv V c s + 1 - s) p h) := by
  obtain ⟨r1, r0, rn, r7, r8, r9⟩ := ySo_r V (2 * xnv V c s + 1 - s) p h
  have nv : ∀ d u : Int, xnv (ySo V (2 * xnv V c s + 1 - s) p h) d u = xnv V d u := fun d u => by
    show xnb (ySo V (2 * xnv V c s + 1 - s) p h 0 0) (ySo V (2 * xnv V c s + 1 - s) p h 0 3) d u = _
    rw [r0 0 (by decide), r0 3 (by decide)]; rfl
  obtain ⟨⟨⟨a1, a2, a3, a4, a5, a6⟩, q2, q3, q4, q5, q6⟩, q7⟩ := Q
  refine ⟨⟨⟨by rw [f6, r0 2 (by decide)]; exact a1, by rw [f7 _ (by decide), r0 0 (by decide)]; exact a2, by rw [f7 _ (by decide), r0 1 (by decide)]; exact a3, by rw [f7 _ (by decide), r0 5 (by decide)]; exact a4, by rw [f7 _ (by decide), r0 6 (by decide)]; exact a5, by rw [rn]; exact f34⟩, fun d d0 d1 => ?_, fun d t d0 d1 h0 h1 => ?_, fun d d0 d1 => ?_, fun k x0 x1 => ?_, fun t h0 h1 => ?_⟩, by rw [f7 _ (by decide), r0 3 (by decide)]; exact q7⟩
  · rw [f8, r1 1 d (by decide) (by decide), r1 2 d (by decide) (by decide), r1 3 d (by decide) (by decide), r1 6 (2 * d) (by decide) (by decide), r1 6 (2 * d + 1) (by decide) (by decide), r0 4 (by decide)]
    exact q2 d d0 d1
  · rw [f9, r1 5 d (by decide) (by decide), r0 6 (by decide)]
    exact q3 d t d0 d1 h0 h1
  · rw [xnk_a f9, r1 4 d (by decide) (by decide), r0 6 (by decide)]
    exact q4 d d0 d1
  · rw [rn] at x1
    rw [r0 0 (by decide), nv, r7, r8, r9]
    by_cases e : k = V 0 7
    · subst e
      rw [show 32 * 4 + 4 * V 0 7 = 128 + 4 * V 0 7 by omega, k0, k1, k2, k3, if_pos rfl, if_pos rfl, if_pos rfl]
      exact ⟨⟨c0, c1⟩, hs, hb, rfl, rfl, rfl⟩
    · rw [f10 _ (by omega), f10 _ (by omega), f10 _ (by omega), f10 _ (by omega), if_neg e, if_neg e, if_neg e]
      exact q5 k x0 (by omega)
  · rw [f11, r1 10 t (by decide) (by decide)]
    exact q6 t h0 h1
theorem soup_t {f : Int → Int} {L a e k c s kk code : Int} {V A B : xM} (al : yAl f L a e k A B) (D : yDt V A B) (p2 : 2 ≤ V 0 0) (c0 : 0 ≤ c) (c1 : c < V 0 0) (hs : s = 0 ∨ s = 1) (hkk : (if s = 0 then 11 else 12 : Int) = kk) (Wk : yW kk code) (y : yis f a e k (xstr kk.toNat) = true) (n8 : V 0 7 < 8) : ∃ A' B' : xM, fReader_readSoup_L82 2 c s 1 A = some A' ∧ yQs (V 0 7) c s B = some B' ∧ yLo f L a V A B A' B' := by
  have W := D.2.1
  have hN := W.1.1
  have hH := W.1.2.1
  have hn := W.1.2.2.2.1
  have nr := xnb_rg (ring := V 0 3) (s := s) c0 c1
  unfold yQs
  rw [e_readSoup_L82, if_pos al.2.1.1, if_neg (show ¬ (1 : Int) = 0 by decide), hkk, nb_s D.1 W.1 c0 c1, if_pos al.2.2.1.1, beside_s (w := 4) (N := V 0 0) (R := V 0 3) D.2.2.1.1.1.2.1 D.2.2.1.2 W.1.2.2.1 hN.2 (by decide) (by decide) c0 c1 hs, xB_s]
  by_cases z : xnb (V 0 0) (V 0 3) c s = -1
  · obtain ⟨d, fa, fb, c12⟩ := fail_s (c := 2) al (by decide)
    rw [if_pos z, tw_d d.2.1, xB_s, tn_d d.2.1, xB2_s, tw_d d.2.1, xB_s, tn_d d.2.1, xB2_s, ts_d d.2.1, xB_s, if_neg d.2.1.1, if_pos z, if_neg (by rw [c12]; decide)]
    exact ⟨_, _, rfl, rfl, yGa_F fa, yGb_F fb, Or.inl d⟩
  · obtain ⟨A1, B1, e1, en, -, -, fa, fb, a1, e1', k1, l1, al1⟩ := word_t al Wk y
    have D1 := yDt_F D fa fb
    rw [if_neg z, e1, xB_s, if_neg z, if_pos al.2.2.1.1, en, xB_s]
    unfold yQt
    rw [xw32_id (x := 2 * xnb (V 0 0) (V 0 3) c s) (by omega) (by omega), xw32_id (x := 2 * xnb (V 0 0) (V 0 3) c s + 1) (by omega) (by omega), xw32_id (x := 2 * xnb (V 0 0) (V 0 3) c s + 1 - s) (by omega) (by omega), xw32_id (x := 32 + V 0 7) (by omega) (by omega), xw32_id (x := 4 * (32 + V 0 7)) (by omega) (by omega), show 4 * (32 + V 0 7) = 128 + 4 * V 0 7 by omega, xw32_id (x := 128 + 4 * V 0 7 + 1) (by omega) (by omega), xw32_id (x := 128 + 4 * V 0 7 + 2) (by omega) (by omega), xw32_id (x := 128 + 4 * V 0 7 + 3) (by omega) (by omega), xA_p (by omega), xA_p (by omega)]
    generalize hx : 128 + 4 * V 0 7 = x
    have ga1 : yGa A A1 := yGa_F fa
    have gb1 : yGb B (xwr (xwr B1 (310 + 10) x c) (310 + 10) (x + 1) s) := yGb_w (yGb_w (yGb_F fb) _ (by unfold yOwn; omega)) _ (by unfold yOwn; omega)
    have al1' : yAl f L a1 e1' k1 A1 (xwr (xwr B1 (310 + 10) x c) (310 + 10) (x + 1) s) := yAl_o al1 (fun _ _ _ _ => rfl) rfl rfl (fun j _ _ => by rw [xwr_a _ (by decide), xwr_a _ (by decide)]) (by rw [xwr_a _ (by decide), xwr_a _ (by decide)])
    obtain ⟨p, p', A2, B2, e2, e3, fa2, fb2, u⟩ := num_s (lo := 1) (hi := 9) al1' (by decide) (by decide)
    rw [e2, xB2_s, e3, xB2_s, xA_p (by omega)]
    have ga2 : yGa A A2 := yGa_t ga1 (yGa_F fa2)
    have gb2 : yGb B (xwr B2 (310 + 10) (x + 2) p') := yGb_w (yGb_t gb1 (yGb_F fb2)) _ (by unfold yOwn; omega)
    rcases u with ⟨ep, p0, p9, a2, e2', k2, l2, al2⟩ | d
    · subst ep
      have al2' : yAl f L a2 e2' k2 A2 (xwr B2 (310 + 10) (x + 2) p) := yAl_o al2 (fun _ _ _ _ => rfl) rfl rfl (fun j _ _ => by rw [xwr_a _ (by decide)]) (xwr_a _ (by decide))
      have qH : (xwr B2 (310 + 10) (x + 2) p) (310 + 7) (28 + 1) = V 0 1 := by
        rw [xwr_a _ (by decide), fb2.1 (310 + 7) (by decide), xwr_a _ (by decide), xwr_a _ (by decide)]
        exact D1.2.2.1.1.1.2.2.1
      obtain ⟨v, v', A3, A4, B4, e4, e5, e6, fa4, fb4, fa3, u⟩ := wnum_s (lo := 0) (hi := V 0 1 - 1) al2' yW_17 (by decide) (by omega)
      have cH : A3 (2 + 3) 1 = V 0 1 := by rw [fa3.1 (2 + 3) (by decide), fa2.1 (2 + 3) (by decide)]; exact xPv_0 D1.1 1 (by decide) (by decide)
      rw [e4, xB_s, cH, xw32_id (x := V 0 1 - 1) (by omega) (by omega), e5, xB2_s, hasRead_s _ 1 (by decide) (by decide), xB_s, qH, xw32_id (x := V 0 1 - 1) (by omega) (by omega), e6, xB2_s, xA_p (by omega)]
      have ga4 : yGa A A4 := yGa_t ga2 (yGa_F fa4)
      have gb4 : yGb B B4 := yGb_t gb2 (yGb_F fb4)
      have gb5 : ∀ q : Int, yGb B (xwr (xwr B4 (310 + 10) (x + 3) v') (310 + 7) 34 q) := fun q => yGb_w (yGb_w gb4 _ (by unfold yOwn; omega)) _ (by unfold yOwn; omega)
      rcases u with ⟨ev, v0, v1, a4, e4', k4, l4, al4⟩ | d
      · subst ev
        have q34 : (xwr B4 (310 + 10) (x + 3) v) (310 + 7) 34 = V 0 7 := by
          rw [xwr_a _ (by decide), fb4.1 (310 + 7) (by decide), xwr_a _ (by decide), fb2.1 (310 + 7) (by decide), xwr_a _ (by decide), xwr_a _ (by decide)]
          exact D1.2.2.1.1.1.2.2.2.2.2
        have b10 : ∀ j : Int, (xwr B4 (310 + 10) (x + 3) v) (310 + 10) j = if j = x + 3 then v else if j = x + 2 then p else if j = x + 1 then s else if j = x then c else B1 (310 + 10) j := fun j => by
          rw [xwr_at, fb4.1 (310 + 10) (by decide), xwr_at, fb2.1 (310 + 10) (by decide), xwr_at, xwr_at]
          (repeat' split) <;> first | rfl | (exfalso; omega)
        have bo : ∀ u : Int, u ≠ 310 → u ≠ 310 + 10 → (xwr B4 (310 + 10) (x + 3) v) u = B1 u := fun u h1 h2 => by
          rw [xwr_a _ h2, fb4.1 u h1, xwr_a _ h2, fb2.1 u h1, xwr_a _ h2, xwr_a _ h2]
        have D4 : xPv A4 (2 + 3) V ∧ A4 2 6 = A1 2 6 := ⟨xPv_go D1.1 (fun u _ _ => by rw [fa4.1 u (by omega), fa2.1 u (by omega)]), by rw [fa4.2, fa2.2]⟩
        rw [q34, xw32_id (x := V 0 7 + 1) (by omega) (by omega)]
        obtain ⟨A', y1, y2⟩ := lend_s (V := V) (A := A) (B := B) (B3 := xwr (xwr B4 (310 + 10) (x + 3) v) (310 + 7) 34 (V 0 7 + 1)) (W := fun m => xB (fPrison_addSoup (2 + 3) (2 * xnb (V 0 0) (V 0 3) c s + 1 - s) p v m) (fun m => some m)) al4 ga4 (gb5 _) (by rw [xwr_a _ (by decide), xwr_a _ (by decide)]) (by rw [xwr_a _ (by decide), xwr_a _ (by decide)]) (fun A7 B7 fa7 fb7 _ => by
          obtain ⟨m8, w1, w4, w2⟩ := addSoup_t (V := V) (m := A7) (q := 2 + 3) (b := 2 * xnb (V 0 0) (V 0 3) c s + 1 - s) (p := p) (h := v) (xPv_go D4.1 (fun u _ _ => fa7.1 u (by omega))) hn.1 (by omega)
          obtain ⟨r1, r0, rn, r7, r8, r9⟩ := ySo_r V (2 * xnb (V 0 0) (V 0 3) c s + 1 - s) p v
          refine ⟨m8, ySo V (2 * xnb (V 0 0) (V 0 3) c s + 1 - s) p v, by show xB _ _ = _; rw [w1, xB_s], fun u u2 u5 => by rw [w2 u (by omega), fa7.1 u u2]; exact ga4.1 u u2 u5, fun j hj => by rw [w2 2 (by omega)], ⟨w4, ySo_E W n8 (by omega) p9, ?_, ?_, ?_, ?_⟩, r0 2 (by decide), by rw [r0 0 (by decide)]; exact p2⟩
          · refine xQ0_c (ySo_Q (m' := xwr (xwr B4 (310 + 10) (x + 3) v) (310 + 7) 34 (V 0 7 + 1)) W D1.2.2.1 n8 c0 c1 hs z ?_ ?_ ?_ ?_ (fun j hj => ?_) (xwr_s _ _ _ _) (fun j hj => ?_) ?_ ?_ ?_ ?_) (fun u _ _ => fb7.1 u (by omega))
            · rw [xwr_a _ (by decide), bo _ (by decide) (by decide)]
            · rw [xwr_a _ (by decide), bo _ (by decide) (by decide)]
            · rw [xwr_a _ (by decide), bo _ (by decide) (by decide)]
            · rw [xwr_a _ (by decide), bo _ (by decide) (by decide)]
            · rw [xwr_n _ (by omega), bo _ (by decide) (by decide)]
            · rw [xwr_a _ (by decide), b10, if_neg (by omega), if_neg (by omega), if_neg (by omega), if_neg (by omega)]
            · rw [xwr_a _ (by decide), b10, if_neg (by omega), if_neg (by omega), if_neg (by omega), if_pos (by omega)]
            · rw [xwr_a _ (by decide), b10, if_neg (by omega), if_neg (by omega), if_pos (by omega)]
            · rw [xwr_a _ (by decide), b10, if_neg (by omega), if_pos (by omega)]
            · rw [xwr_a _ (by decide), b10, if_pos (by omega)]
          · rw [w2 2 (by omega), fa7.2, D4.2, fb7.1 (310 + 7) (by decide), xwr_n _ (by decide), bo _ (by decide) (by decide)]; exact D1.2.2.2.1
          · rw [w2 2 (by omega), fa7.2, D4.2]; exact D1.2.2.2.2.1
          · rw [w2 2 (by omega), fa7.2, D4.2, r0 0 (by decide), r0 4 (by decide)]; exact D1.2.2.2.2.2)
        exact ⟨A', _, y1, rfl, yLo_n (yGa_r _) (yGb_r _) y2 (by omega)⟩
      · rw [ts_d d.2.1, xB_s, if_neg d.2.1.1]
        exact ⟨A4, _, rfl, rfl, ga4, gb5 _, Or.inl (yDe_o d rfl rfl rfl (fun j _ _ => by rw [xwr_a _ (by decide), xwr_a _ (by decide)]) (by rw [xwr_a _ (by decide), xwr_a _ (by decide)]))⟩
    · have h2 : (xwr B2 (310 + 10) (x + 2) p') 310 12 ≠ 0 := by rw [xwr_a _ (by decide)]; exact yDe_q d
      rw [tw_d d.2.1, xB_s, tn_d d.2.1, xB2_s, ts_d d.2.1, xB_s, if_neg d.2.1.1, hasRead_s _ 1 (by decide) (by decide), xB_s, num3_d h2, xB2_s, xA_p (by omega)]
      exact ⟨A2, _, rfl, rfl, ga2, yGb_w (yGb_w gb2 _ (by unfold yOwn; omega)) _ (by unfold yOwn; omega), Or.inl (yDe_o d rfl rfl rfl (fun j _ _ => by rw [xwr_a _ (by decide), xwr_a _ (by decide), xwr_a _ (by decide)]) (by rw [xwr_a _ (by decide), xwr_a _ (by decide), xwr_a _ (by decide)]))⟩
theorem soup_s {f : Int → Int} {L a e k : Int} {V A B : xM} (al0 : yAl f L a e k A B) (D0 : yDt V A B) (p2 : 2 ≤ V 0 0) (y : yis f a e k (xstr (3 : Int).toNat) = true) (n8 : V 0 7 < 8) : ∃ B1 A' B' : xM, fQ_next 310 B = some B1 ∧ fReader_readSoup 2 A = some A' ∧ fQ_soupLine 310 B1 = some B' ∧ yLo f L a V A B A' B' := by
  obtain ⟨A1, B1, e1, en, -, -, fa, fb, a1, e1', k1, l1, al⟩ := word_t al0 yW_3 y
  have D := yDt_F D0 fa fb
  have W := D.2.1
  have hN := W.1.1
  have s0 : A (2 + 3) 7 = V 0 7 := xPv_0 D0.1 7 (by decide) (by decide)
  have cN : A1 (2 + 3) 0 = V 0 0 := xPv_0 D.1 0 (by decide) (by decide)
  have qN : B1 (310 + 7) (28 + 0) = V 0 0 := D.2.2.1.1.1.2.1
  have qS : B1 (310 + 7) (28 + 6) = V 0 7 := D.2.2.1.1.1.2.2.2.2.2
  refine ⟨B1, ?_⟩
  rw [en, e_readSoup3, s0, if_pos n8, e1, xB_s, e_q_soup3, hasRead_s B1 6 (by decide) (by decide), xB_s, qS, cN, xw32_id (x := V 0 0 - 1) (by omega) (by omega)]
  obtain ⟨c, c', A2, B2, e2, e3, fa2, fb2, u⟩ := here_s al qN hN.1 hN.2
  rw [e2, xB2_s, e3, xB2_s]
  have ga2 : yGa A A2 := yGa_t (yGa_F fa) (yGa_F fa2)
  have gb2 : yGb B B2 := yGb_t (yGb_F fb) (yGb_F fb2)
  have dead : ∀ A3 B3 : xM, yDe f L A3 B3 → yGa A A3 → yGb B B3 → ∃ A' B' : xM, some B1 = some B1 ∧ ySr c A3 = some A' ∧ (if (fQ_is 310 240023 B3) = 0 then (if (fQ_is 310 9748424 B3) = 0 then (yQx (V 0 7) c' B3) else (yQs (V 0 7) c' (if (fQ_is 310 240023 B3) = 0 then 1 else 0 : Int) B3)) else (yQs (V 0 7) c' (if (fQ_is 310 240023 B3) = 0 then 1 else 0 : Int) B3)) = some B' ∧ yLo f L a V A B A' B' := fun A3 B3 d ga gb => by
    have h := yDe_q d
    unfold yQx
    rw [is_d h, is_d h, fails_d h, if_pos (show (0 : Int) = 0 from rfl), if_pos (show (0 : Int) = 0 from rfl), if_neg h, if_neg h, ySr_d d.2.1]
    exact ⟨A3, B3, rfl, rfl, rfl, ga, gb, Or.inl d⟩
  rcases u with ⟨ec, c0, c1, a2, e2', k2, l2, al2⟩ | d
  · subst ec
    have D2 := yDt_F D fa2 fb2
    obtain ⟨A3, B3, e4, e5, fa3, fb3, u⟩ := word_s al2 yW_16
    rw [e4, xB_s, e5, xB_s]
    have ga3 : yGa A A3 := yGa_t ga2 (yGa_F fa3)
    have gb3 : yGb B B3 := yGb_t gb2 (yGb_F fb3)
    rcases u with ⟨a3, e3', k3, l3, al3⟩ | d
    · have D3 := yDt_F D2 fa3 fb3
      rw [ySr_l (isW_c (kk := 11) al3) (isW_c (kk := 12) al3), is_q al3 yW_11, is_q al3 yW_12]
      by_cases yl : yis f a3 e3' k3 (xstr (11 : Int).toNat) = true
      · obtain ⟨A', B', g1, g2, g3⟩ := soup_t (s := 0) al3 D3 p2 c0 (by omega) (Or.inl rfl) rfl yW_11 yl n8
        rw [if_pos yl, if_neg (show ¬ (1 : Int) = 0 by decide), if_neg (show ¬ (1 : Int) = 0 by decide), if_neg (show ¬ (1 : Int) = 0 by decide), g1, g2]
        exact ⟨A', B', rfl, rfl, rfl, yLo_n ga3 gb3 g3 (by omega)⟩
      · rw [if_neg yl, if_pos (show (0 : Int) = 0 from rfl), if_pos (show (0 : Int) = 0 from rfl), if_pos (show (0 : Int) = 0 from rfl)]
        by_cases yr : yis f a3 e3' k3 (xstr (12 : Int).toNat) = true
        · obtain ⟨A', B', g1, g2, g3⟩ := soup_t (s := 1) al3 D3 p2 c0 (by omega) (Or.inr rfl) rfl yW_12 yr n8
          rw [if_pos yr, if_neg (show ¬ (1 : Int) = 0 by decide), if_neg (show ¬ (1 : Int) = 0 by decide), g1, g2]
          exact ⟨A', B', rfl, rfl, rfl, yLo_n ga3 gb3 g3 (by omega)⟩
        · obtain ⟨d, fa4, fb4, c12⟩ := fail_s (c := 1) al3 (by decide)
          have tw : fReader_takeWord 2 12 A3 = some (fReader_fail 2 1 A3) := by
            unfold fReader_takeWord
            rw [isW_c al3, xB_s, if_neg yr, if_pos (show (0 : Int) = 0 from rfl), adv_d d.2.1]; rfl
          have h := yDe_q d
          unfold yQx
          rw [if_neg yr, if_pos (show (0 : Int) = 0 from rfl), if_pos (show (0 : Int) = 0 from rfl), if_neg h, if_neg h, e_readSoup_L82, if_pos al3.2.1.1, if_pos (show (0 : Int) = 0 from rfl), if_neg (show ¬ (1 : Int) = 0 by decide), tw, xB_s, tn_d d.2.1, xB2_s, tw_d d.2.1, xB_s, tn_d d.2.1, xB2_s, ts_d d.2.1, xB_s, if_neg d.2.1.1]
          exact ⟨_, _, rfl, rfl, rfl, yGa_t ga3 (yGa_F fa4), yGb_t gb3 (yGb_F fb4), Or.inl d⟩
    · exact dead A3 B3 d ga3 gb3
  · rw [tw_d d.2.1, xB_s, asks_d (yDe_q d), xB_s]
    exact dead A2 B2 d ga2 gb2
/-- a soup too many -/
theorem soup_f {f : Int → Int} {L a e k : Int} {V A B : xM} (al : yAl f L a e k A B) (D : yDt V A B) (n8 : ¬ V 0 7 < 8) : ∃ A' : xM, fReader_readSoup 2 A = some A' ∧ yLo f L a V A B A' (fQ_fails 310 3 B) := by
  obtain ⟨d, fa, fb, -⟩ := fail_s (c := 3) al (by decide)
  have s0 : A (2 + 3) 7 = V 0 7 := xPv_0 D.1 7 (by decide) (by decide)
  rw [e_readSoup3, s0, if_neg n8, tw_d d.2.1, xB_s, tn_d d.2.1, xB2_s, tw_d d.2.1, xB_s, ySr_d d.2.1]
  exact ⟨_, rfl, yGa_F fa, yGb_F fb, Or.inl d⟩
end
