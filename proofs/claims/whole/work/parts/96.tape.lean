/-! the tape, line by line -/
noncomputable section
theorem yGa_5 {A A' : xM} (h : yGa A A') (j v : Int) : yGa A (xwr A' (2 + 3) j v) := ⟨yGo_w h j v (by decide) (by decide), fun q => by
  have := h.2 q
  unfold yB9 at this ⊢
  rw [xwr_a _ (by decide)]
  exact this⟩
theorem Q4_02 {V m : xM} {y : Int} (Q : xQ0 m 310 4 V) : xQ0 (xwr m (310 + 6) 4 y) 310 4 (xwr V 0 2 y) := by
  have r : ∀ a i : Int, a ≠ 0 → xwr V 0 2 y a i = V a i := fun a i h => xwr_r a i h
  have e0 : ∀ i : Int, i ≠ 2 → xwr V 0 2 y 0 i = V 0 i := fun i hi => xwr_n _ (fun x => hi x.2)
  have f : ∀ x : Int, x ≠ 310 + 6 → (xwr m (310 + 6) 4 y) x = m x := fun x h => xwr_a _ h
  have nv : ∀ d s : Int, xnv (xwr V 0 2 y) d s = xnv V d s := fun d s => by unfold xnv; rw [e0 0 (by decide), e0 3 (by decide)]
  obtain ⟨⟨⟨a1, a2, a3, a4, a5, a6⟩, q2, q3, q4, q5, q6⟩, q7⟩ := Q
  refine ⟨⟨⟨(xwr_s _ _ _ _).trans (xwr_s _ _ _ _).symm, by rw [f _ (by decide), e0 0 (by decide)]; exact a2, by rw [f _ (by decide), e0 1 (by decide)]; exact a3, by rw [f _ (by decide), e0 5 (by decide)]; exact a4, by rw [f _ (by decide), e0 6 (by decide)]; exact a5, by rw [f _ (by decide), e0 7 (by decide)]; exact a6⟩, fun d d0 d1 => ?_, fun d t d0 d1 t0 t1 => ?_, fun d d0 d1 => ?_, fun k x0 x1 => ?_, fun t t0 t1 => ?_⟩, by rw [f _ (by decide), e0 3 (by decide)]; exact q7⟩
  · rw [f _ (by decide), r 1 d (by decide), r 2 d (by decide), r 3 d (by decide), r 6 (2 * d) (by decide), r 6 (2 * d + 1) (by decide), e0 4 (by decide)]
    exact q2 d d0 d1
  · rw [f _ (by decide), r 5 d (by decide), e0 6 (by decide)]
    exact q3 d t d0 d1 t0 t1
  · rw [xnk_a (f _ (by decide)), r 4 d (by decide), e0 6 (by decide)]
    exact q4 d d0 d1
  · rw [e0 7 (by decide)] at x1
    rw [f _ (by decide), e0 0 (by decide), nv, r 7 k (by decide), r 8 k (by decide), r 9 k (by decide)]
    exact q5 k x0 x1
  · rw [f _ (by decide), r 10 t (by decide)]
    exact q6 t t0 t1
theorem WE_02 {V : xM} (W : xWE V) {y : Int} (p2 : 2 ≤ V 0 0) (y0 : 1 ≤ y) (y1 : y ≤ 1600) : xWE (xwr V 0 2 y) := by
  have r : ∀ a i : Int, a ≠ 0 → xwr V 0 2 y a i = V a i := fun a i h => xwr_r a i h
  have e0 : ∀ i : Int, i ≠ 2 → xwr V 0 2 y 0 i = V 0 i := fun i hi => xwr_n _ (fun x => hi x.2)
  have z1 := fun i => r 1 i (by decide)
  have z2 := fun i => r 2 i (by decide)
  have z3 := fun i => r 3 i (by decide)
  have z5 := fun i => r 5 i (by decide)
  have z6 := fun i => r 6 i (by decide)
  have z8 := fun i => r 8 i (by decide)
  have z10 := fun i => r 10 i (by decide)
  unfold xWE xWF at W ⊢
  rw [e0 0 (by decide), e0 1 (by decide), e0 3 (by decide), e0 4 (by decide), e0 5 (by decide), e0 6 (by decide), e0 7 (by decide), show xwr V 0 2 y 0 2 = y from xwr_s _ _ _ _]
  exact ⟨⟨W.1.1, W.1.2.1, W.1.2.2.1, W.1.2.2.2.1, fun d d0 d1 => by rw [z1, z2, z3, z5]; exact W.1.2.2.2.2.1 d d0 d1, fun d d0 d1 => by rw [z6]; exact W.1.2.2.2.2.2.1 d d0 d1, fun d d0 d1 => by rw [z8]; exact W.1.2.2.2.2.2.2.1 d d0 d1, W.1.2.2.2.2.2.2.2.1, W.1.2.2.2.2.2.2.2.2.1, fun d d0 d1 => by rw [z10]; exact W.1.2.2.2.2.2.2.2.2.2 d d0 d1⟩, W.2.1, W.2.2.1, W.2.2.2.1, W.2.2.2.2.1, by omega, by omega, W.2.2.2.2.2.2.2.1, W.2.2.2.2.2.2.2.2.1, W.2.2.2.2.2.2.2.2.2.1, W.2.2.2.2.2.2.2.2.2.2.1, fun d h d0 d1 h0 h1 hb => W.2.2.2.2.2.2.2.2.2.2.2.1 d h d0 d1 h0 h1 (by rw [z5] at hb; exact hb), fun d d0 d1 => by rw [z10]; exact W.2.2.2.2.2.2.2.2.2.2.2.2 d d0 d1⟩
theorem line_up {V A B : xM} {y : Int} (D : yDt V A B) (p2 : 2 ≤ V 0 0) (y0 : 1 ≤ y) (y1 : y ≤ 1600) : yDt (xwr V 0 2 y) (xwr A (2 + 3) 2 y) (xwr B (310 + 6) 4 y) := by
  obtain ⟨d1, d2, d3, d4, d5, d6⟩ := D
  refine ⟨xPv_w0 d1 2 y, WE_02 d2 p2 y0 y1, Q4_02 d3, ?_, ?_, ?_⟩
  · rw [xwr_a (a := 2 + 3) (b := 2) _ (by decide), xwr_a (a := 310 + 6) (b := 310 + 7) _ (by decide)]; exact d4
  · rw [xwr_a (a := 2 + 3) (b := 2) _ (by decide)]; exact d5
  · rw [xwr_a (a := 2 + 3) (b := 2) _ (by decide), show xwr V 0 2 y 0 0 = V 0 0 from xwr_n _ (by decide), show xwr V 0 2 y 0 4 = V 0 4 from xwr_n _ (by decide)]; exact d6
/-- what the reference does behind the last line -/
def yOv (M : xM) : Option (Int × xM) := if ((fQ_isOver 310 M) 310 12) = 0 then (xB (fQ_copyPrison 310 4 0 (fQ_isOver 310 M)) (fun m5 => some ((m5 (310 + 6) 0), m5))) else (some ((-4), (fQ_isOver 310 M)))
theorem L33_d {A : xM} (h : yDa A) (g : Nat) (i : Int) : fReader_readTape_L33 (g + 1) 2 i A = some (0, A) := by
  rw [fReader_readTape_L33, if_neg h.1, if_neg h.1]
  split <;> rfl
theorem L13_d {B : xM} (h : B 310 12 ≠ 0) (g : Nat) : fQ_prison_L13 (g + 1) 310 B = yOv B := by
  rw [fQ_prison_L13, if_pos (good_1 h)]
  rfl
theorem yDa_5 {A : xM} (h : yDa A) (j v : Int) : yDa (xwr A (2 + 3) j v) := by
  unfold yDa at h ⊢
  rw [xwr_a (a := 2 + 3) (b := 2) _ (by decide)]
  exact h
theorem yDe_5 {f : Int → Int} {L : Int} {A B : xM} (h : yDe f L A B) (v w : Int) : yDe f L (xwr A (2 + 3) 2 v) (xwr B (310 + 6) 4 w) :=
  yDe_o h (xwr_a _ (by decide)) (xwr_a _ (by decide)) (xwr_a _ (by decide)) (fun j _ _ => by rw [xwr_a _ (by decide)]) (xwr_a _ (by decide))
def yEn (f : Int → Int) (L : Int) (A B A' B' : xM) (v : Int) : Prop := yGa A A' ∧ yGb B B' ∧ ((v = 0 ∧ yDe f L A' B') ∨ (v = 1 ∧ A' 2 7 = 0 ∧ B' 310 12 = 0 ∧ A' 2 8 = -1 ∧ yTp f L A' B' ∧ ∃ V' : xM, yDt V' A' B'))
end
