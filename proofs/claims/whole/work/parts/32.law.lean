/-! the law, case by case, and its loop (printed by wip/tools/lawgen.py) -/
noncomputable section
theorem xlaw_w {i L : Int} (j : Int) (hi : 0 ≤ i) (hL : i + 6 ≤ L) (hb : L ≤ 3072) (h0 : 0 ≤ j) (h5 : j ≤ 5) : xw32 (i + j) = i + j ∧ 0 ≤ xw32 (i + j) ∧ xw32 (i + j) < L := by
  rw [xw32_eq]; omega
def xlawC_0 (a : Int → Int) (M m2 : xM) : Prop := ∃ r : Int, ∃ m1 : xM, fD_feed 1 (a 1) (a 2) (a 3) (a 4) (a 5) M = some (r, m1) ∧ m1 0 = M 0 ∧ fQ_feed 310 (a 1) (a 2) (a 3) (a 4) (a 5) m1 = some (r, m2) ∧ m2 0 = M 0
theorem xlawS_0 {a : Int → Int} {M m2 : xM} (h : xlawC_0 a M m2) : m2 0 = M 0 := by
  obtain ⟨r, m1, h1, e1, h2, e2⟩ := h
  exact e2
theorem xlaw_0 {i L : Int} {M m2 : xM} {z : Option xV × xM} (hi : 0 ≤ i) (hj : i + 6 ≤ L) (hL : L ≤ 3072) (hlen : M 0 4000 = L) (h : xlawC_0 (fun j => M 0 (i + j)) M m2) (hk : m2 0 = M 0 → xEv (296, 18, [some (53, 0), some (2, 1), some (13, 310), some (0, xw32 (i + 6))], [], m2) z) : xEv (296, 312, [some (53, 0), some (2, 1), some (13, 310), some (0, i)], [], M) z := by
  obtain ⟨r, m1, h1, e1, h2, e2⟩ := h
  have w1 := (xlaw_w 1 hi hj hL (by decide) (by decide)).1
  have b1 : 0 ≤ xw32 (i + 1) ∧ xw32 (i + 1) < M 0 4000 := by rw [hlen]; exact (xlaw_w 1 hi hj hL (by decide) (by decide)).2
  have d1 : 0 ≤ xw32 (i + 1) ∧ xw32 (i + 1) < m1 0 4000 := by rw [e1]; exact b1
  have w2 := (xlaw_w 2 hi hj hL (by decide) (by decide)).1
  have b2 : 0 ≤ xw32 (i + 2) ∧ xw32 (i + 2) < M 0 4000 := by rw [hlen]; exact (xlaw_w 2 hi hj hL (by decide) (by decide)).2
  have d2 : 0 ≤ xw32 (i + 2) ∧ xw32 (i + 2) < m1 0 4000 := by rw [e1]; exact b2
  have w3 := (xlaw_w 3 hi hj hL (by decide) (by decide)).1
  have b3 : 0 ≤ xw32 (i + 3) ∧ xw32 (i + 3) < M 0 4000 := by rw [hlen]; exact (xlaw_w 3 hi hj hL (by decide) (by decide)).2
  have d3 : 0 ≤ xw32 (i + 3) ∧ xw32 (i + 3) < m1 0 4000 := by rw [e1]; exact b3
  have w4 := (xlaw_w 4 hi hj hL (by decide) (by decide)).1
  have b4 : 0 ≤ xw32 (i + 4) ∧ xw32 (i + 4) < M 0 4000 := by rw [hlen]; exact (xlaw_w 4 hi hj hL (by decide) (by decide)).2
  have d4 : 0 ≤ xw32 (i + 4) ∧ xw32 (i + 4) < m1 0 4000 := by rw [e1]; exact b4
  have w5 := (xlaw_w 5 hi hj hL (by decide) (by decide)).1
  have b5 : 0 ≤ xw32 (i + 5) ∧ xw32 (i + 5) < M 0 4000 := by rw [hlen]; exact (xlaw_w 5 hi hj hL (by decide) (by decide)).2
  have d5 : 0 ≤ xw32 (i + 5) ∧ xw32 (i + 5) < m1 0 4000 := by rw [e1]; exact b5
  have h1 : fD_feed 1 (M 0 (xw32 (i + 1))) (M 0 (xw32 (i + 2))) (M 0 (xw32 (i + 3))) (M 0 (xw32 (i + 4))) (M 0 (xw32 (i + 5))) M = some (r, m1) := by simp only [w1, w2, w3, w4, w5]; exact h1
  have h2 : fQ_feed 310 (m1 0 (xw32 (i + 1))) (m1 0 (xw32 (i + 2))) (m1 0 (xw32 (i + 3))) (m1 0 (xw32 (i + 4))) (m1 0 (xw32 (i + 5))) m1 = some (r, m2) := by simp only [e1, w1, w2, w3, w4, w5]; exact h2
  refine xEvG_n xml xfetch 26 (y := (296, 338, [some (53, 0), some (2, 1), some (13, 310), some (0, i)], [(0, (M 0 (xw32 (i + 5)))), (0, (M 0 (xw32 (i + 4)))), (0, (M 0 (xw32 (i + 3)))), (0, (M 0 (xw32 (i + 2)))), (0, (M 0 (xw32 (i + 1)))), (2, 1)], M)) rfl ⟨b1, b2, b3, b4, b5, trivial⟩ ?_
  refine xEvG_call xml xfetch (q := (some (0, r), m1)) rfl (hD_feed 1 (M 0 (xw32 (i + 1))) (M 0 (xw32 (i + 2))) (M 0 (xw32 (i + 3))) (M 0 (xw32 (i + 4))) (M 0 (xw32 (i + 5))) M _ h1) ?_
  show xEv (296, 341, [some (53, 0), some (2, 1), some (13, 310), some (0, i)], [(0, r)], m1) _
  refine xEvG_n xml xfetch 26 (y := (296, 367, [some (53, 0), some (2, 1), some (13, 310), some (0, i)], [(0, (m1 0 (xw32 (i + 5)))), (0, (m1 0 (xw32 (i + 4)))), (0, (m1 0 (xw32 (i + 3)))), (0, (m1 0 (xw32 (i + 2)))), (0, (m1 0 (xw32 (i + 1)))), (13, 310), (0, r)], m1)) rfl ⟨d1, d2, d3, d4, d5, trivial⟩ ?_
  refine xEvG_call xml xfetch (q := (some (0, r), m2)) rfl (hQ_feed 310 (m1 0 (xw32 (i + 1))) (m1 0 (xw32 (i + 2))) (m1 0 (xw32 (i + 3))) (m1 0 (xw32 (i + 4))) (m1 0 (xw32 (i + 5))) m1 _ h2) ?_
  show xEv (296, 370, [some (53, 0), some (2, 1), some (13, 310), some (0, i)], [(0, r), (0, r)], m2) _
  refine xEvG_n xml xfetch 1 (y := (296, if r = r then 2210 else 373, [some (53, 0), some (2, 1), some (13, 310), some (0, i)], [], m2)) rfl trivial ?_
  refine xEvG_br xml xfetch (fun _ => ?_) (fun c_ => absurd rfl c_)
  refine xEvG_n xml xfetch 2 (y := (296, 18, [some (53, 0), some (2, 1), some (13, 310), some (0, (xw32 (i + 6)))], [], m2)) rfl trivial ?_
  exact hk e2
def xlawC_1 (a : Int → Int) (M m2 : xM) : Prop := ∃ r : Int, ∃ m1 : xM, fD_end 1 (a 1) M = (r, m1) ∧ m1 0 = M 0 ∧ fQ_end 310 (a 1) m1 = (r, m2) ∧ m2 0 = M 0
theorem xlawS_1 {a : Int → Int} {M m2 : xM} (h : xlawC_1 a M m2) : m2 0 = M 0 := by
  obtain ⟨r, m1, h1, e1, h2, e2⟩ := h
  exact e2
theorem xlaw_1 {i L : Int} {M m2 : xM} {z : Option xV × xM} (hi : 0 ≤ i) (hj : i + 6 ≤ L) (hL : L ≤ 3072) (hlen : M 0 4000 = L) (h : xlawC_1 (fun j => M 0 (i + j)) M m2) (hk : m2 0 = M 0 → xEv (296, 18, [some (53, 0), some (2, 1), some (13, 310), some (0, xw32 (i + 6))], [], m2) z) : xEv (296, 375, [some (53, 0), some (2, 1), some (13, 310), some (0, i)], [], M) z := by
  obtain ⟨r, m1, h1, e1, h2, e2⟩ := h
  have w1 := (xlaw_w 1 hi hj hL (by decide) (by decide)).1
  have b1 : 0 ≤ xw32 (i + 1) ∧ xw32 (i + 1) < M 0 4000 := by rw [hlen]; exact (xlaw_w 1 hi hj hL (by decide) (by decide)).2
  have d1 : 0 ≤ xw32 (i + 1) ∧ xw32 (i + 1) < m1 0 4000 := by rw [e1]; exact b1
  have h1 : fD_end 1 (M 0 (xw32 (i + 1))) M = (r, m1) := by simp only [w1]; exact h1
  have h2 : fQ_end 310 (m1 0 (xw32 (i + 1))) m1 = (r, m2) := by simp only [e1, w1]; exact h2
  refine xEvG_n xml xfetch 6 (y := (296, 381, [some (53, 0), some (2, 1), some (13, 310), some (0, i)], [(0, (M 0 (xw32 (i + 1)))), (2, 1)], M)) rfl ⟨b1, trivial⟩ ?_
  refine xEvG_call xml xfetch (q := (some (0, r), m1)) rfl (hD_end 1 (M 0 (xw32 (i + 1))) M _ h1) ?_
  show xEv (296, 384, [some (53, 0), some (2, 1), some (13, 310), some (0, i)], [(0, r)], m1) _
  refine xEvG_n xml xfetch 6 (y := (296, 390, [some (53, 0), some (2, 1), some (13, 310), some (0, i)], [(0, (m1 0 (xw32 (i + 1)))), (13, 310), (0, r)], m1)) rfl ⟨d1, trivial⟩ ?_
  refine xEvG_call xml xfetch (q := (some (0, r), m2)) rfl (hQ_end 310 (m1 0 (xw32 (i + 1))) m1 _ h2) ?_
  show xEv (296, 393, [some (53, 0), some (2, 1), some (13, 310), some (0, i)], [(0, r), (0, r)], m2) _
  refine xEvG_n xml xfetch 1 (y := (296, if r = r then 2210 else 396, [some (53, 0), some (2, 1), some (13, 310), some (0, i)], [], m2)) rfl trivial ?_
  refine xEvG_br xml xfetch (fun _ => ?_) (fun c_ => absurd rfl c_)
  refine xEvG_n xml xfetch 2 (y := (296, 18, [some (53, 0), some (2, 1), some (13, 310), some (0, (xw32 (i + 6)))], [], m2)) rfl trivial ?_
  exact hk e2
def xlawC_2 (a : Int → Int) (M m2 : xM) : Prop := ∃ r : Int, ∃ m1 : xM, fD_prison 1 M = some (r, m1) ∧ m1 0 = M 0 ∧ fQ_prison 310 m1 = some (r, m2) ∧ m2 0 = M 0
theorem xlawS_2 {a : Int → Int} {M m2 : xM} (h : xlawC_2 a M m2) : m2 0 = M 0 := by
  obtain ⟨r, m1, h1, e1, h2, e2⟩ := h
  exact e2
theorem xlaw_2 {i L : Int} {M m2 : xM} {z : Option xV × xM} (hi : 0 ≤ i) (hj : i + 6 ≤ L) (hL : L ≤ 3072) (hlen : M 0 4000 = L) (h : xlawC_2 (fun j => M 0 (i + j)) M m2) (hk : m2 0 = M 0 → xEv (296, 18, [some (53, 0), some (2, 1), some (13, 310), some (0, xw32 (i + 6))], [], m2) z) : xEv (296, 398, [some (53, 0), some (2, 1), some (13, 310), some (0, i)], [], M) z := by
  obtain ⟨r, m1, h1, e1, h2, e2⟩ := h
  refine xEvG_n xml xfetch 1 (y := (296, 399, [some (53, 0), some (2, 1), some (13, 310), some (0, i)], [(2, 1)], M)) rfl trivial ?_
  refine xEvG_call xml xfetch (q := (some (0, r), m1)) rfl (hD_prison 1 M _ h1) ?_
  show xEv (296, 402, [some (53, 0), some (2, 1), some (13, 310), some (0, i)], [(0, r)], m1) _
  refine xEvG_n xml xfetch 1 (y := (296, 403, [some (53, 0), some (2, 1), some (13, 310), some (0, i)], [(13, 310), (0, r)], m1)) rfl trivial ?_
  refine xEvG_call xml xfetch (q := (some (0, r), m2)) rfl (hQ_prison 310 m1 _ h2) ?_
  show xEv (296, 406, [some (53, 0), some (2, 1), some (13, 310), some (0, i)], [(0, r), (0, r)], m2) _
  refine xEvG_n xml xfetch 1 (y := (296, if r = r then 2210 else 409, [some (53, 0), some (2, 1), some (13, 310), some (0, i)], [], m2)) rfl trivial ?_
  refine xEvG_br xml xfetch (fun _ => ?_) (fun c_ => absurd rfl c_)
  refine xEvG_n xml xfetch 2 (y := (296, 18, [some (53, 0), some (2, 1), some (13, 310), some (0, (xw32 (i + 6)))], [], m2)) rfl trivial ?_
  exact hk e2
def xlawC_3 (a : Int → Int) (M m2 : xM) : Prop := ∃ r : Int, fD_fault 1 (a 1) M = r ∧ fQ_fault 310 (a 1) M = (r, m2) ∧ m2 0 = M 0
theorem xlawS_3 {a : Int → Int} {M m2 : xM} (h : xlawC_3 a M m2) : m2 0 = M 0 := by
  obtain ⟨r, h1, h2, e2⟩ := h
  exact e2
theorem xlaw_3 {i L : Int} {M m2 : xM} {z : Option xV × xM} (hi : 0 ≤ i) (hj : i + 6 ≤ L) (hL : L ≤ 3072) (hlen : M 0 4000 = L) (h : xlawC_3 (fun j => M 0 (i + j)) M m2) (hk : m2 0 = M 0 → xEv (296, 18, [some (53, 0), some (2, 1), some (13, 310), some (0, xw32 (i + 6))], [], m2) z) : xEv (296, 411, [some (53, 0), some (2, 1), some (13, 310), some (0, i)], [], M) z := by
  obtain ⟨r, h1, h2, e2⟩ := h
  have w1 := (xlaw_w 1 hi hj hL (by decide) (by decide)).1
  have b1 : 0 ≤ xw32 (i + 1) ∧ xw32 (i + 1) < M 0 4000 := by rw [hlen]; exact (xlaw_w 1 hi hj hL (by decide) (by decide)).2
  have d1 := b1
  have h1 : fD_fault 1 (M 0 (xw32 (i + 1))) M = r := by simp only [w1]; exact h1
  have h2 : fQ_fault 310 (M 0 (xw32 (i + 1))) M = (r, m2) := by simp only [w1]; exact h2
  refine xEvG_n xml xfetch 6 (y := (296, 417, [some (53, 0), some (2, 1), some (13, 310), some (0, i)], [(0, (M 0 (xw32 (i + 1)))), (2, 1)], M)) rfl ⟨b1, trivial⟩ ?_
  refine xEvG_call xml xfetch (q := (some (0, r), M)) rfl (hD_fault 1 (M 0 (xw32 (i + 1))) M _ h1) ?_
  show xEv (296, 420, [some (53, 0), some (2, 1), some (13, 310), some (0, i)], [(0, r)], M) _
  refine xEvG_n xml xfetch 6 (y := (296, 426, [some (53, 0), some (2, 1), some (13, 310), some (0, i)], [(0, (M 0 (xw32 (i + 1)))), (13, 310), (0, r)], M)) rfl ⟨b1, trivial⟩ ?_
  refine xEvG_call xml xfetch (q := (some (0, r), m2)) rfl (hQ_fault 310 (M 0 (xw32 (i + 1))) M _ h2) ?_
  show xEv (296, 429, [some (53, 0), some (2, 1), some (13, 310), some (0, i)], [(0, r), (0, r)], m2) _
  refine xEvG_n xml xfetch 1 (y := (296, if r = r then 2210 else 432, [some (53, 0), some (2, 1), some (13, 310), some (0, i)], [], m2)) rfl trivial ?_
  refine xEvG_br xml xfetch (fun _ => ?_) (fun c_ => absurd rfl c_)
  refine xEvG_n xml xfetch 2 (y := (296, 18, [some (53, 0), some (2, 1), some (13, 310), some (0, (xw32 (i + 6)))], [], m2)) rfl trivial ?_
  exact hk e2
def xlawC_4 (a : Int → Int) (M m2 : xM) : Prop := ∃ r : Int, fD_cell 1 (a 1) (a 2) M = some r ∧ fQ_cell 310 (a 1) (a 2) M = some (r, m2) ∧ m2 0 = M 0
theorem xlawS_4 {a : Int → Int} {M m2 : xM} (h : xlawC_4 a M m2) : m2 0 = M 0 := by
  obtain ⟨r, h1, h2, e2⟩ := h
  exact e2
theorem xlaw_4 {i L : Int} {M m2 : xM} {z : Option xV × xM} (hi : 0 ≤ i) (hj : i + 6 ≤ L) (hL : L ≤ 3072) (hlen : M 0 4000 = L) (h : xlawC_4 (fun j => M 0 (i + j)) M m2) (hk : m2 0 = M 0 → xEv (296, 18, [some (53, 0), some (2, 1), some (13, 310), some (0, xw32 (i + 6))], [], m2) z) : xEv (296, 434, [some (53, 0), some (2, 1), some (13, 310), some (0, i)], [], M) z := by
  obtain ⟨r, h1, h2, e2⟩ := h
  have w1 := (xlaw_w 1 hi hj hL (by decide) (by decide)).1
  have b1 : 0 ≤ xw32 (i + 1) ∧ xw32 (i + 1) < M 0 4000 := by rw [hlen]; exact (xlaw_w 1 hi hj hL (by decide) (by decide)).2
  have d1 := b1
  have w2 := (xlaw_w 2 hi hj hL (by decide) (by decide)).1
  have b2 : 0 ≤ xw32 (i + 2) ∧ xw32 (i + 2) < M 0 4000 := by rw [hlen]; exact (xlaw_w 2 hi hj hL (by decide) (by decide)).2
  have d2 := b2
  have h1 : fD_cell 1 (M 0 (xw32 (i + 1))) (M 0 (xw32 (i + 2))) M = some r := by simp only [w1, w2]; exact h1
  have h2 : fQ_cell 310 (M 0 (xw32 (i + 1))) (M 0 (xw32 (i + 2))) M = some (r, m2) := by simp only [w1, w2]; exact h2
  refine xEvG_n xml xfetch 11 (y := (296, 445, [some (53, 0), some (2, 1), some (13, 310), some (0, i)], [(0, (M 0 (xw32 (i + 2)))), (0, (M 0 (xw32 (i + 1)))), (2, 1)], M)) rfl ⟨b1, b2, trivial⟩ ?_
  refine xEvG_call xml xfetch (q := (some (0, r), M)) rfl (hD_cell 1 (M 0 (xw32 (i + 1))) (M 0 (xw32 (i + 2))) M _ h1) ?_
  show xEv (296, 448, [some (53, 0), some (2, 1), some (13, 310), some (0, i)], [(0, r)], M) _
  refine xEvG_n xml xfetch 11 (y := (296, 459, [some (53, 0), some (2, 1), some (13, 310), some (0, i)], [(0, (M 0 (xw32 (i + 2)))), (0, (M 0 (xw32 (i + 1)))), (13, 310), (0, r)], M)) rfl ⟨b1, b2, trivial⟩ ?_
  refine xEvG_call xml xfetch (q := (some (0, r), m2)) rfl (hQ_cell 310 (M 0 (xw32 (i + 1))) (M 0 (xw32 (i + 2))) M _ h2) ?_
  show xEv (296, 462, [some (53, 0), some (2, 1), some (13, 310), some (0, i)], [(0, r), (0, r)], m2) _
  refine xEvG_n xml xfetch 1 (y := (296, if r = r then 2210 else 465, [some (53, 0), some (2, 1), some (13, 310), some (0, i)], [], m2)) rfl trivial ?_
  refine xEvG_br xml xfetch (fun _ => ?_) (fun c_ => absurd rfl c_)
  refine xEvG_n xml xfetch 2 (y := (296, 18, [some (53, 0), some (2, 1), some (13, 310), some (0, (xw32 (i + 6)))], [], m2)) rfl trivial ?_
  exact hk e2
def xlawC_5 (a : Int → Int) (M m2 : xM) : Prop := ∃ r : Int, fD_beside 1 (a 1) (a 2) M = r ∧ fQ_beside 310 (a 1) (a 2) M = some (r, m2) ∧ m2 0 = M 0
theorem xlawS_5 {a : Int → Int} {M m2 : xM} (h : xlawC_5 a M m2) : m2 0 = M 0 := by
  obtain ⟨r, h1, h2, e2⟩ := h
  exact e2
theorem xlaw_5 {i L : Int} {M m2 : xM} {z : Option xV × xM} (hi : 0 ≤ i) (hj : i + 6 ≤ L) (hL : L ≤ 3072) (hlen : M 0 4000 = L) (h : xlawC_5 (fun j => M 0 (i + j)) M m2) (hk : m2 0 = M 0 → xEv (296, 18, [some (53, 0), some (2, 1), some (13, 310), some (0, xw32 (i + 6))], [], m2) z) : xEv (296, 467, [some (53, 0), some (2, 1), some (13, 310), some (0, i)], [], M) z := by
  obtain ⟨r, h1, h2, e2⟩ := h
  have w1 := (xlaw_w 1 hi hj hL (by decide) (by decide)).1
  have b1 : 0 ≤ xw32 (i + 1) ∧ xw32 (i + 1) < M 0 4000 := by rw [hlen]; exact (xlaw_w 1 hi hj hL (by decide) (by decide)).2
  have d1 := b1
  have w2 := (xlaw_w 2 hi hj hL (by decide) (by decide)).1
  have b2 : 0 ≤ xw32 (i + 2) ∧ xw32 (i + 2) < M 0 4000 := by rw [hlen]; exact (xlaw_w 2 hi hj hL (by decide) (by decide)).2
  have d2 := b2
  have h1 : fD_beside 1 (M 0 (xw32 (i + 1))) (M 0 (xw32 (i + 2))) M = r := by simp only [w1, w2]; exact h1
  have h2 : fQ_beside 310 (M 0 (xw32 (i + 1))) (M 0 (xw32 (i + 2))) M = some (r, m2) := by simp only [w1, w2]; exact h2
  refine xEvG_n xml xfetch 11 (y := (296, 478, [some (53, 0), some (2, 1), some (13, 310), some (0, i)], [(0, (M 0 (xw32 (i + 2)))), (0, (M 0 (xw32 (i + 1)))), (2, 1)], M)) rfl ⟨b1, b2, trivial⟩ ?_
  refine xEvG_call xml xfetch (q := (some (0, r), M)) rfl (hD_beside 1 (M 0 (xw32 (i + 1))) (M 0 (xw32 (i + 2))) M _ h1) ?_
  show xEv (296, 481, [some (53, 0), some (2, 1), some (13, 310), some (0, i)], [(0, r)], M) _
  refine xEvG_n xml xfetch 11 (y := (296, 492, [some (53, 0), some (2, 1), some (13, 310), some (0, i)], [(0, (M 0 (xw32 (i + 2)))), (0, (M 0 (xw32 (i + 1)))), (13, 310), (0, r)], M)) rfl ⟨b1, b2, trivial⟩ ?_
  refine xEvG_call xml xfetch (q := (some (0, r), m2)) rfl (hQ_beside 310 (M 0 (xw32 (i + 1))) (M 0 (xw32 (i + 2))) M _ h2) ?_
  show xEv (296, 495, [some (53, 0), some (2, 1), some (13, 310), some (0, i)], [(0, r), (0, r)], m2) _
  refine xEvG_n xml xfetch 1 (y := (296, if r = r then 2210 else 498, [some (53, 0), some (2, 1), some (13, 310), some (0, i)], [], m2)) rfl trivial ?_
  refine xEvG_br xml xfetch (fun _ => ?_) (fun c_ => absurd rfl c_)
  refine xEvG_n xml xfetch 2 (y := (296, 18, [some (53, 0), some (2, 1), some (13, 310), some (0, (xw32 (i + 6)))], [], m2)) rfl trivial ?_
  exact hk e2
def xlawC_6 (a : Int → Int) (M m2 : xM) : Prop := ∃ r : Int, fD_likes 1 (a 1) (a 2) (a 3) M = some r ∧ fQ_likes 310 (a 1) (a 2) (a 3) M = some (r, m2) ∧ m2 0 = M 0
theorem xlawS_6 {a : Int → Int} {M m2 : xM} (h : xlawC_6 a M m2) : m2 0 = M 0 := by
  obtain ⟨r, h1, h2, e2⟩ := h
  exact e2
theorem xlaw_6 {i L : Int} {M m2 : xM} {z : Option xV × xM} (hi : 0 ≤ i) (hj : i + 6 ≤ L) (hL : L ≤ 3072) (hlen : M 0 4000 = L) (h : xlawC_6 (fun j => M 0 (i + j)) M m2) (hk : m2 0 = M 0 → xEv (296, 18, [some (53, 0), some (2, 1), some (13, 310), some (0, xw32 (i + 6))], [], m2) z) : xEv (296, 500, [some (53, 0), some (2, 1), some (13, 310), some (0, i)], [], M) z := by
  obtain ⟨r, h1, h2, e2⟩ := h
  have w1 := (xlaw_w 1 hi hj hL (by decide) (by decide)).1
  have b1 : 0 ≤ xw32 (i + 1) ∧ xw32 (i + 1) < M 0 4000 := by rw [hlen]; exact (xlaw_w 1 hi hj hL (by decide) (by decide)).2
  have d1 := b1
  have w2 := (xlaw_w 2 hi hj hL (by decide) (by decide)).1
  have b2 : 0 ≤ xw32 (i + 2) ∧ xw32 (i + 2) < M 0 4000 := by rw [hlen]; exact (xlaw_w 2 hi hj hL (by decide) (by decide)).2
  have d2 := b2
  have w3 := (xlaw_w 3 hi hj hL (by decide) (by decide)).1
  have b3 : 0 ≤ xw32 (i + 3) ∧ xw32 (i + 3) < M 0 4000 := by rw [hlen]; exact (xlaw_w 3 hi hj hL (by decide) (by decide)).2
  have d3 := b3
  have h1 : fD_likes 1 (M 0 (xw32 (i + 1))) (M 0 (xw32 (i + 2))) (M 0 (xw32 (i + 3))) M = some r := by simp only [w1, w2, w3]; exact h1
  have h2 : fQ_likes 310 (M 0 (xw32 (i + 1))) (M 0 (xw32 (i + 2))) (M 0 (xw32 (i + 3))) M = some (r, m2) := by simp only [w1, w2, w3]; exact h2
  refine xEvG_n xml xfetch 16 (y := (296, 516, [some (53, 0), some (2, 1), some (13, 310), some (0, i)], [(0, (M 0 (xw32 (i + 3)))), (0, (M 0 (xw32 (i + 2)))), (0, (M 0 (xw32 (i + 1)))), (2, 1)], M)) rfl ⟨b1, b2, b3, trivial⟩ ?_
  refine xEvG_call xml xfetch (q := (some (0, r), M)) rfl (hD_likes 1 (M 0 (xw32 (i + 1))) (M 0 (xw32 (i + 2))) (M 0 (xw32 (i + 3))) M _ h1) ?_
  show xEv (296, 519, [some (53, 0), some (2, 1), some (13, 310), some (0, i)], [(0, r)], M) _
  refine xEvG_n xml xfetch 16 (y := (296, 535, [some (53, 0), some (2, 1), some (13, 310), some (0, i)], [(0, (M 0 (xw32 (i + 3)))), (0, (M 0 (xw32 (i + 2)))), (0, (M 0 (xw32 (i + 1)))), (13, 310), (0, r)], M)) rfl ⟨b1, b2, b3, trivial⟩ ?_
  refine xEvG_call xml xfetch (q := (some (0, r), m2)) rfl (hQ_likes 310 (M 0 (xw32 (i + 1))) (M 0 (xw32 (i + 2))) (M 0 (xw32 (i + 3))) M _ h2) ?_
  show xEv (296, 538, [some (53, 0), some (2, 1), some (13, 310), some (0, i)], [(0, r), (0, r)], m2) _
  refine xEvG_n xml xfetch 1 (y := (296, if r = r then 2210 else 541, [some (53, 0), some (2, 1), some (13, 310), some (0, i)], [], m2)) rfl trivial ?_
  refine xEvG_br xml xfetch (fun _ => ?_) (fun c_ => absurd rfl c_)
  refine xEvG_n xml xfetch 2 (y := (296, 18, [some (53, 0), some (2, 1), some (13, 310), some (0, (xw32 (i + 6)))], [], m2)) rfl trivial ?_
  exact hk e2
def xlawC_7 (a : Int → Int) (M m2 : xM) : Prop := ∃ r : Int, fD_reason 1 (a 1) (a 2) (a 3) M = some r ∧ fQ_reason 310 (a 1) (a 2) (a 3) M = some (r, m2) ∧ m2 0 = M 0
theorem xlawS_7 {a : Int → Int} {M m2 : xM} (h : xlawC_7 a M m2) : m2 0 = M 0 := by
  obtain ⟨r, h1, h2, e2⟩ := h
  exact e2
theorem xlaw_7 {i L : Int} {M m2 : xM} {z : Option xV × xM} (hi : 0 ≤ i) (hj : i + 6 ≤ L) (hL : L ≤ 3072) (hlen : M 0 4000 = L) (h : xlawC_7 (fun j => M 0 (i + j)) M m2) (hk : m2 0 = M 0 → xEv (296, 18, [some (53, 0), some (2, 1), some (13, 310), some (0, xw32 (i + 6))], [], m2) z) : xEv (296, 543, [some (53, 0), some (2, 1), some (13, 310), some (0, i)], [], M) z := by
  obtain ⟨r, h1, h2, e2⟩ := h
  have w1 := (xlaw_w 1 hi hj hL (by decide) (by decide)).1
  have b1 : 0 ≤ xw32 (i + 1) ∧ xw32 (i + 1) < M 0 4000 := by rw [hlen]; exact (xlaw_w 1 hi hj hL (by decide) (by decide)).2
  have d1 := b1
  have w2 := (xlaw_w 2 hi hj hL (by decide) (by decide)).1
  have b2 : 0 ≤ xw32 (i + 2) ∧ xw32 (i + 2) < M 0 4000 := by rw [hlen]; exact (xlaw_w 2 hi hj hL (by decide) (by decide)).2
  have d2 := b2
  have w3 := (xlaw_w 3 hi hj hL (by decide) (by decide)).1
  have b3 : 0 ≤ xw32 (i + 3) ∧ xw32 (i + 3) < M 0 4000 := by rw [hlen]; exact (xlaw_w 3 hi hj hL (by decide) (by decide)).2
  have d3 := b3
  have h1 : fD_reason 1 (M 0 (xw32 (i + 1))) (M 0 (xw32 (i + 2))) (M 0 (xw32 (i + 3))) M = some r := by simp only [w1, w2, w3]; exact h1
  have h2 : fQ_reason 310 (M 0 (xw32 (i + 1))) (M 0 (xw32 (i + 2))) (M 0 (xw32 (i + 3))) M = some (r, m2) := by simp only [w1, w2, w3]; exact h2
  refine xEvG_n xml xfetch 16 (y := (296, 559, [some (53, 0), some (2, 1), some (13, 310), some (0, i)], [(0, (M 0 (xw32 (i + 3)))), (0, (M 0 (xw32 (i + 2)))), (0, (M 0 (xw32 (i + 1)))), (2, 1)], M)) rfl ⟨b1, b2, b3, trivial⟩ ?_
  refine xEvG_call xml xfetch (q := (some (0, r), M)) rfl (hD_reason 1 (M 0 (xw32 (i + 1))) (M 0 (xw32 (i + 2))) (M 0 (xw32 (i + 3))) M _ h1) ?_
  show xEv (296, 562, [some (53, 0), some (2, 1), some (13, 310), some (0, i)], [(0, r)], M) _
  refine xEvG_n xml xfetch 16 (y := (296, 578, [some (53, 0), some (2, 1), some (13, 310), some (0, i)], [(0, (M 0 (xw32 (i + 3)))), (0, (M 0 (xw32 (i + 2)))), (0, (M 0 (xw32 (i + 1)))), (13, 310), (0, r)], M)) rfl ⟨b1, b2, b3, trivial⟩ ?_
  refine xEvG_call xml xfetch (q := (some (0, r), m2)) rfl (hQ_reason 310 (M 0 (xw32 (i + 1))) (M 0 (xw32 (i + 2))) (M 0 (xw32 (i + 3))) M _ h2) ?_
  show xEv (296, 581, [some (53, 0), some (2, 1), some (13, 310), some (0, i)], [(0, r), (0, r)], m2) _
  refine xEvG_n xml xfetch 1 (y := (296, if r = r then 2210 else 584, [some (53, 0), some (2, 1), some (13, 310), some (0, i)], [], m2)) rfl trivial ?_
  refine xEvG_br xml xfetch (fun _ => ?_) (fun c_ => absurd rfl c_)
  refine xEvG_n xml xfetch 2 (y := (296, 18, [some (53, 0), some (2, 1), some (13, 310), some (0, (xw32 (i + 6)))], [], m2)) rfl trivial ?_
  exact hk e2
def xlawC_8 (a : Int → Int) (M m2 : xM) : Prop := ∃ r : Int, fD_hours 1 (a 1) (a 2) M = some r ∧ fQ_hours 310 (a 1) (a 2) M = some (r, m2) ∧ m2 0 = M 0
theorem xlawS_8 {a : Int → Int} {M m2 : xM} (h : xlawC_8 a M m2) : m2 0 = M 0 := by
  obtain ⟨r, h1, h2, e2⟩ := h
  exact e2
theorem xlaw_8 {i L : Int} {M m2 : xM} {z : Option xV × xM} (hi : 0 ≤ i) (hj : i + 6 ≤ L) (hL : L ≤ 3072) (hlen : M 0 4000 = L) (h : xlawC_8 (fun j => M 0 (i + j)) M m2) (hk : m2 0 = M 0 → xEv (296, 18, [some (53, 0), some (2, 1), some (13, 310), some (0, xw32 (i + 6))], [], m2) z) : xEv (296, 586, [some (53, 0), some (2, 1), some (13, 310), some (0, i)], [], M) z := by
  obtain ⟨r, h1, h2, e2⟩ := h
  have w1 := (xlaw_w 1 hi hj hL (by decide) (by decide)).1
  have b1 : 0 ≤ xw32 (i + 1) ∧ xw32 (i + 1) < M 0 4000 := by rw [hlen]; exact (xlaw_w 1 hi hj hL (by decide) (by decide)).2
  have d1 := b1
  have w2 := (xlaw_w 2 hi hj hL (by decide) (by decide)).1
  have b2 : 0 ≤ xw32 (i + 2) ∧ xw32 (i + 2) < M 0 4000 := by rw [hlen]; exact (xlaw_w 2 hi hj hL (by decide) (by decide)).2
  have d2 := b2
  have h1 : fD_hours 1 (M 0 (xw32 (i + 1))) (M 0 (xw32 (i + 2))) M = some r := by simp only [w1, w2]; exact h1
  have h2 : fQ_hours 310 (M 0 (xw32 (i + 1))) (M 0 (xw32 (i + 2))) M = some (r, m2) := by simp only [w1, w2]; exact h2
  refine xEvG_n xml xfetch 11 (y := (296, 597, [some (53, 0), some (2, 1), some (13, 310), some (0, i)], [(0, (M 0 (xw32 (i + 2)))), (0, (M 0 (xw32 (i + 1)))), (2, 1)], M)) rfl ⟨b1, b2, trivial⟩ ?_
  refine xEvG_call xml xfetch (q := (some (0, r), M)) rfl (hD_hours 1 (M 0 (xw32 (i + 1))) (M 0 (xw32 (i + 2))) M _ h1) ?_
  show xEv (296, 600, [some (53, 0), some (2, 1), some (13, 310), some (0, i)], [(0, r)], M) _
  refine xEvG_n xml xfetch 11 (y := (296, 611, [some (53, 0), some (2, 1), some (13, 310), some (0, i)], [(0, (M 0 (xw32 (i + 2)))), (0, (M 0 (xw32 (i + 1)))), (13, 310), (0, r)], M)) rfl ⟨b1, b2, trivial⟩ ?_
  refine xEvG_call xml xfetch (q := (some (0, r), m2)) rfl (hQ_hours 310 (M 0 (xw32 (i + 1))) (M 0 (xw32 (i + 2))) M _ h2) ?_
  show xEv (296, 614, [some (53, 0), some (2, 1), some (13, 310), some (0, i)], [(0, r), (0, r)], m2) _
  refine xEvG_n xml xfetch 1 (y := (296, if r = r then 2210 else 617, [some (53, 0), some (2, 1), some (13, 310), some (0, i)], [], m2)) rfl trivial ?_
  refine xEvG_br xml xfetch (fun _ => ?_) (fun c_ => absurd rfl c_)
  refine xEvG_n xml xfetch 2 (y := (296, 18, [some (53, 0), some (2, 1), some (13, 310), some (0, (xw32 (i + 6)))], [], m2)) rfl trivial ?_
  exact hk e2
def xlawC_9 (a : Int → Int) (M m2 : xM) : Prop := ∃ r : Int, fD_could 1 (a 1) M = some r ∧ fQ_could 310 (a 1) M = some (r, m2) ∧ m2 0 = M 0
theorem xlawS_9 {a : Int → Int} {M m2 : xM} (h : xlawC_9 a M m2) : m2 0 = M 0 := by
  obtain ⟨r, h1, h2, e2⟩ := h
  exact e2
theorem xlaw_9 {i L : Int} {M m2 : xM} {z : Option xV × xM} (hi : 0 ≤ i) (hj : i + 6 ≤ L) (hL : L ≤ 3072) (hlen : M 0 4000 = L) (h : xlawC_9 (fun j => M 0 (i + j)) M m2) (hk : m2 0 = M 0 → xEv (296, 18, [some (53, 0), some (2, 1), some (13, 310), some (0, xw32 (i + 6))], [], m2) z) : xEv (296, 619, [some (53, 0), some (2, 1), some (13, 310), some (0, i)], [], M) z := by
  obtain ⟨r, h1, h2, e2⟩ := h
  have w1 := (xlaw_w 1 hi hj hL (by decide) (by decide)).1
  have b1 : 0 ≤ xw32 (i + 1) ∧ xw32 (i + 1) < M 0 4000 := by rw [hlen]; exact (xlaw_w 1 hi hj hL (by decide) (by decide)).2
  have d1 := b1
  have h1 : fD_could 1 (M 0 (xw32 (i + 1))) M = some r := by simp only [w1]; exact h1
  have h2 : fQ_could 310 (M 0 (xw32 (i + 1))) M = some (r, m2) := by simp only [w1]; exact h2
  refine xEvG_n xml xfetch 6 (y := (296, 625, [some (53, 0), some (2, 1), some (13, 310), some (0, i)], [(0, (M 0 (xw32 (i + 1)))), (2, 1)], M)) rfl ⟨b1, trivial⟩ ?_
  refine xEvG_call xml xfetch (q := (some (0, r), M)) rfl (hD_could 1 (M 0 (xw32 (i + 1))) M _ h1) ?_
  show xEv (296, 628, [some (53, 0), some (2, 1), some (13, 310), some (0, i)], [(0, r)], M) _
  refine xEvG_n xml xfetch 6 (y := (296, 634, [some (53, 0), some (2, 1), some (13, 310), some (0, i)], [(0, (M 0 (xw32 (i + 1)))), (13, 310), (0, r)], M)) rfl ⟨b1, trivial⟩ ?_
  refine xEvG_call xml xfetch (q := (some (0, r), m2)) rfl (hQ_could 310 (M 0 (xw32 (i + 1))) M _ h2) ?_
  show xEv (296, 637, [some (53, 0), some (2, 1), some (13, 310), some (0, i)], [(0, r), (0, r)], m2) _
  refine xEvG_n xml xfetch 1 (y := (296, if r = r then 2210 else 640, [some (53, 0), some (2, 1), some (13, 310), some (0, i)], [], m2)) rfl trivial ?_
  refine xEvG_br xml xfetch (fun _ => ?_) (fun c_ => absurd rfl c_)
  refine xEvG_n xml xfetch 2 (y := (296, 18, [some (53, 0), some (2, 1), some (13, 310), some (0, (xw32 (i + 6)))], [], m2)) rfl trivial ?_
  exact hk e2
def xlawC_10 (a : Int → Int) (M m2 : xM) : Prop := ∃ r : Int, fD_longest 1 (a 1) (a 2) M = some r ∧ fQ_longest 310 (a 1) (a 2) M = some (r, m2) ∧ m2 0 = M 0
theorem xlawS_10 {a : Int → Int} {M m2 : xM} (h : xlawC_10 a M m2) : m2 0 = M 0 := by
  obtain ⟨r, h1, h2, e2⟩ := h
  exact e2
theorem xlaw_10 {i L : Int} {M m2 : xM} {z : Option xV × xM} (hi : 0 ≤ i) (hj : i + 6 ≤ L) (hL : L ≤ 3072) (hlen : M 0 4000 = L) (h : xlawC_10 (fun j => M 0 (i + j)) M m2) (hk : m2 0 = M 0 → xEv (296, 18, [some (53, 0), some (2, 1), some (13, 310), some (0, xw32 (i + 6))], [], m2) z) : xEv (296, 642, [some (53, 0), some (2, 1), some (13, 310), some (0, i)], [], M) z := by
  obtain ⟨r, h1, h2, e2⟩ := h
  have w1 := (xlaw_w 1 hi hj hL (by decide) (by decide)).1
  have b1 : 0 ≤ xw32 (i + 1) ∧ xw32 (i + 1) < M 0 4000 := by rw [hlen]; exact (xlaw_w 1 hi hj hL (by decide) (by decide)).2
  have d1 := b1
  have w2 := (xlaw_w 2 hi hj hL (by decide) (by decide)).1
  have b2 : 0 ≤ xw32 (i + 2) ∧ xw32 (i + 2) < M 0 4000 := by rw [hlen]; exact (xlaw_w 2 hi hj hL (by decide) (by decide)).2
  have d2 := b2
  have h1 : fD_longest 1 (M 0 (xw32 (i + 1))) (M 0 (xw32 (i + 2))) M = some r := by simp only [w1, w2]; exact h1
  have h2 : fQ_longest 310 (M 0 (xw32 (i + 1))) (M 0 (xw32 (i + 2))) M = some (r, m2) := by simp only [w1, w2]; exact h2
  refine xEvG_n xml xfetch 11 (y := (296, 653, [some (53, 0), some (2, 1), some (13, 310), some (0, i)], [(0, (M 0 (xw32 (i + 2)))), (0, (M 0 (xw32 (i + 1)))), (2, 1)], M)) rfl ⟨b1, b2, trivial⟩ ?_
  refine xEvG_call xml xfetch (q := (some (0, r), M)) rfl (hD_longest 1 (M 0 (xw32 (i + 1))) (M 0 (xw32 (i + 2))) M _ h1) ?_
  show xEv (296, 656, [some (53, 0), some (2, 1), some (13, 310), some (0, i)], [(0, r)], M) _
  refine xEvG_n xml xfetch 11 (y := (296, 667, [some (53, 0), some (2, 1), some (13, 310), some (0, i)], [(0, (M 0 (xw32 (i + 2)))), (0, (M 0 (xw32 (i + 1)))), (13, 310), (0, r)], M)) rfl ⟨b1, b2, trivial⟩ ?_
  refine xEvG_call xml xfetch (q := (some (0, r), m2)) rfl (hQ_longest 310 (M 0 (xw32 (i + 1))) (M 0 (xw32 (i + 2))) M _ h2) ?_
  show xEv (296, 670, [some (53, 0), some (2, 1), some (13, 310), some (0, i)], [(0, r), (0, r)], m2) _
  refine xEvG_n xml xfetch 1 (y := (296, if r = r then 2210 else 673, [some (53, 0), some (2, 1), some (13, 310), some (0, i)], [], m2)) rfl trivial ?_
  refine xEvG_br xml xfetch (fun _ => ?_) (fun c_ => absurd rfl c_)
  refine xEvG_n xml xfetch 2 (y := (296, 18, [some (53, 0), some (2, 1), some (13, 310), some (0, (xw32 (i + 6)))], [], m2)) rfl trivial ?_
  exact hk e2
def xlawC_11 (a : Int → Int) (M m2 : xM) : Prop := ∃ r : Int, fD_common 1 (a 1) (a 2) M = some r ∧ fQ_common 310 (a 1) (a 2) M = some (r, m2) ∧ m2 0 = M 0
theorem xlawS_11 {a : Int → Int} {M m2 : xM} (h : xlawC_11 a M m2) : m2 0 = M 0 := by
  obtain ⟨r, h1, h2, e2⟩ := h
  exact e2
theorem xlaw_11 {i L : Int} {M m2 : xM} {z : Option xV × xM} (hi : 0 ≤ i) (hj : i + 6 ≤ L) (hL : L ≤ 3072) (hlen : M 0 4000 = L) (h : xlawC_11 (fun j => M 0 (i + j)) M m2) (hk : m2 0 = M 0 → xEv (296, 18, [some (53, 0), some (2, 1), some (13, 310), some (0, xw32 (i + 6))], [], m2) z) : xEv (296, 675, [some (53, 0), some (2, 1), some (13, 310), some (0, i)], [], M) z := by
  obtain ⟨r, h1, h2, e2⟩ := h
  have w1 := (xlaw_w 1 hi hj hL (by decide) (by decide)).1
  have b1 : 0 ≤ xw32 (i + 1) ∧ xw32 (i + 1) < M 0 4000 := by rw [hlen]; exact (xlaw_w 1 hi hj hL (by decide) (by decide)).2
  have d1 := b1
  have w2 := (xlaw_w 2 hi hj hL (by decide) (by decide)).1
  have b2 : 0 ≤ xw32 (i + 2) ∧ xw32 (i + 2) < M 0 4000 := by rw [hlen]; exact (xlaw_w 2 hi hj hL (by decide) (by decide)).2
  have d2 := b2
  have h1 : fD_common 1 (M 0 (xw32 (i + 1))) (M 0 (xw32 (i + 2))) M = some r := by simp only [w1, w2]; exact h1
  have h2 : fQ_common 310 (M 0 (xw32 (i + 1))) (M 0 (xw32 (i + 2))) M = some (r, m2) := by simp only [w1, w2]; exact h2
  refine xEvG_n xml xfetch 11 (y := (296, 686, [some (53, 0), some (2, 1), some (13, 310), some (0, i)], [(0, (M 0 (xw32 (i + 2)))), (0, (M 0 (xw32 (i + 1)))), (2, 1)], M)) rfl ⟨b1, b2, trivial⟩ ?_
  refine xEvG_call xml xfetch (q := (some (0, r), M)) rfl (hD_common 1 (M 0 (xw32 (i + 1))) (M 0 (xw32 (i + 2))) M _ h1) ?_
  show xEv (296, 689, [some (53, 0), some (2, 1), some (13, 310), some (0, i)], [(0, r)], M) _
  refine xEvG_n xml xfetch 11 (y := (296, 700, [some (53, 0), some (2, 1), some (13, 310), some (0, i)], [(0, (M 0 (xw32 (i + 2)))), (0, (M 0 (xw32 (i + 1)))), (13, 310), (0, r)], M)) rfl ⟨b1, b2, trivial⟩ ?_
  refine xEvG_call xml xfetch (q := (some (0, r), m2)) rfl (hQ_common 310 (M 0 (xw32 (i + 1))) (M 0 (xw32 (i + 2))) M _ h2) ?_
  show xEv (296, 703, [some (53, 0), some (2, 1), some (13, 310), some (0, i)], [(0, r), (0, r)], m2) _
  refine xEvG_n xml xfetch 1 (y := (296, if r = r then 2210 else 706, [some (53, 0), some (2, 1), some (13, 310), some (0, i)], [], m2)) rfl trivial ?_
  refine xEvG_br xml xfetch (fun _ => ?_) (fun c_ => absurd rfl c_)
  refine xEvG_n xml xfetch 2 (y := (296, 18, [some (53, 0), some (2, 1), some (13, 310), some (0, (xw32 (i + 6)))], [], m2)) rfl trivial ?_
  exact hk e2
def xlawC_12 (a : Int → Int) (M m2 : xM) : Prop := ∃ r : Int, ∃ m1 : xM, fD_plan 1 (a 1) (a 2) M = some (r, m1) ∧ m1 0 = M 0 ∧ fQ_plan 310 (a 1) (a 2) m1 = some (r, m2) ∧ m2 0 = M 0
theorem xlawS_12 {a : Int → Int} {M m2 : xM} (h : xlawC_12 a M m2) : m2 0 = M 0 := by
  obtain ⟨r, m1, h1, e1, h2, e2⟩ := h
  exact e2
theorem xlaw_12 {i L : Int} {M m2 : xM} {z : Option xV × xM} (hi : 0 ≤ i) (hj : i + 6 ≤ L) (hL : L ≤ 3072) (hlen : M 0 4000 = L) (h : xlawC_12 (fun j => M 0 (i + j)) M m2) (hk : m2 0 = M 0 → xEv (296, 18, [some (53, 0), some (2, 1), some (13, 310), some (0, xw32 (i + 6))], [], m2) z) : xEv (296, 708, [some (53, 0), some (2, 1), some (13, 310), some (0, i)], [], M) z := by
  obtain ⟨r, m1, h1, e1, h2, e2⟩ := h
  have w1 := (xlaw_w 1 hi hj hL (by decide) (by decide)).1
  have b1 : 0 ≤ xw32 (i + 1) ∧ xw32 (i + 1) < M 0 4000 := by rw [hlen]; exact (xlaw_w 1 hi hj hL (by decide) (by decide)).2
  have d1 : 0 ≤ xw32 (i + 1) ∧ xw32 (i + 1) < m1 0 4000 := by rw [e1]; exact b1
  have w2 := (xlaw_w 2 hi hj hL (by decide) (by decide)).1
  have b2 : 0 ≤ xw32 (i + 2) ∧ xw32 (i + 2) < M 0 4000 := by rw [hlen]; exact (xlaw_w 2 hi hj hL (by decide) (by decide)).2
  have d2 : 0 ≤ xw32 (i + 2) ∧ xw32 (i + 2) < m1 0 4000 := by rw [e1]; exact b2
  have h1 : fD_plan 1 (M 0 (xw32 (i + 1))) (M 0 (xw32 (i + 2))) M = some (r, m1) := by simp only [w1, w2]; exact h1
  have h2 : fQ_plan 310 (m1 0 (xw32 (i + 1))) (m1 0 (xw32 (i + 2))) m1 = some (r, m2) := by simp only [e1, w1, w2]; exact h2
  refine xEvG_n xml xfetch 11 (y := (296, 719, [some (53, 0), some (2, 1), some (13, 310), some (0, i)], [(0, (M 0 (xw32 (i + 2)))), (0, (M 0 (xw32 (i + 1)))), (2, 1)], M)) rfl ⟨b1, b2, trivial⟩ ?_
  refine xEvG_call xml xfetch (q := (some (0, r), m1)) rfl (hD_plan 1 (M 0 (xw32 (i + 1))) (M 0 (xw32 (i + 2))) M _ h1) ?_
  show xEv (296, 722, [some (53, 0), some (2, 1), some (13, 310), some (0, i)], [(0, r)], m1) _
  refine xEvG_n xml xfetch 11 (y := (296, 733, [some (53, 0), some (2, 1), some (13, 310), some (0, i)], [(0, (m1 0 (xw32 (i + 2)))), (0, (m1 0 (xw32 (i + 1)))), (13, 310), (0, r)], m1)) rfl ⟨d1, d2, trivial⟩ ?_
  refine xEvG_call xml xfetch (q := (some (0, r), m2)) rfl (hQ_plan 310 (m1 0 (xw32 (i + 1))) (m1 0 (xw32 (i + 2))) m1 _ h2) ?_
  show xEv (296, 736, [some (53, 0), some (2, 1), some (13, 310), some (0, i)], [(0, r), (0, r)], m2) _
  refine xEvG_n xml xfetch 1 (y := (296, if r = r then 2210 else 739, [some (53, 0), some (2, 1), some (13, 310), some (0, i)], [], m2)) rfl trivial ?_
  refine xEvG_br xml xfetch (fun _ => ?_) (fun c_ => absurd rfl c_)
  refine xEvG_n xml xfetch 2 (y := (296, 18, [some (53, 0), some (2, 1), some (13, 310), some (0, (xw32 (i + 6)))], [], m2)) rfl trivial ?_
  exact hk e2
def xlawC_13 (a : Int → Int) (M m2 : xM) : Prop := ∃ r : Int, fD_opens 1 (a 1) M = some r ∧ fQ_opens 310 (a 1) M = some (r, m2) ∧ m2 0 = M 0
theorem xlawS_13 {a : Int → Int} {M m2 : xM} (h : xlawC_13 a M m2) : m2 0 = M 0 := by
  obtain ⟨r, h1, h2, e2⟩ := h
  exact e2
theorem xlaw_13 {i L : Int} {M m2 : xM} {z : Option xV × xM} (hi : 0 ≤ i) (hj : i + 6 ≤ L) (hL : L ≤ 3072) (hlen : M 0 4000 = L) (h : xlawC_13 (fun j => M 0 (i + j)) M m2) (hk : m2 0 = M 0 → xEv (296, 18, [some (53, 0), some (2, 1), some (13, 310), some (0, xw32 (i + 6))], [], m2) z) : xEv (296, 741, [some (53, 0), some (2, 1), some (13, 310), some (0, i)], [], M) z := by
  obtain ⟨r, h1, h2, e2⟩ := h
  have w1 := (xlaw_w 1 hi hj hL (by decide) (by decide)).1
  have b1 : 0 ≤ xw32 (i + 1) ∧ xw32 (i + 1) < M 0 4000 := by rw [hlen]; exact (xlaw_w 1 hi hj hL (by decide) (by decide)).2
  have d1 := b1
  have h1 : fD_opens 1 (M 0 (xw32 (i + 1))) M = some r := by simp only [w1]; exact h1
  have h2 : fQ_opens 310 (M 0 (xw32 (i + 1))) M = some (r, m2) := by simp only [w1]; exact h2
  refine xEvG_n xml xfetch 6 (y := (296, 747, [some (53, 0), some (2, 1), some (13, 310), some (0, i)], [(0, (M 0 (xw32 (i + 1)))), (2, 1)], M)) rfl ⟨b1, trivial⟩ ?_
  refine xEvG_call xml xfetch (q := (some (0, r), M)) rfl (hD_opens 1 (M 0 (xw32 (i + 1))) M _ h1) ?_
  show xEv (296, 750, [some (53, 0), some (2, 1), some (13, 310), some (0, i)], [(0, r)], M) _
  refine xEvG_n xml xfetch 6 (y := (296, 756, [some (53, 0), some (2, 1), some (13, 310), some (0, i)], [(0, (M 0 (xw32 (i + 1)))), (13, 310), (0, r)], M)) rfl ⟨b1, trivial⟩ ?_
  refine xEvG_call xml xfetch (q := (some (0, r), m2)) rfl (hQ_opens 310 (M 0 (xw32 (i + 1))) M _ h2) ?_
  show xEv (296, 759, [some (53, 0), some (2, 1), some (13, 310), some (0, i)], [(0, r), (0, r)], m2) _
  refine xEvG_n xml xfetch 1 (y := (296, if r = r then 2210 else 762, [some (53, 0), some (2, 1), some (13, 310), some (0, i)], [], m2)) rfl trivial ?_
  refine xEvG_br xml xfetch (fun _ => ?_) (fun c_ => absurd rfl c_)
  refine xEvG_n xml xfetch 2 (y := (296, 18, [some (53, 0), some (2, 1), some (13, 310), some (0, (xw32 (i + 6)))], [], m2)) rfl trivial ?_
  exact hk e2
def xlawC_14 (a : Int → Int) (M m2 : xM) : Prop := ∃ r : Int, fD_why 1 (a 1) M = some r ∧ fQ_why 310 (a 1) M = some (r, m2) ∧ m2 0 = M 0
theorem xlawS_14 {a : Int → Int} {M m2 : xM} (h : xlawC_14 a M m2) : m2 0 = M 0 := by
  obtain ⟨r, h1, h2, e2⟩ := h
  exact e2
theorem xlaw_14 {i L : Int} {M m2 : xM} {z : Option xV × xM} (hi : 0 ≤ i) (hj : i + 6 ≤ L) (hL : L ≤ 3072) (hlen : M 0 4000 = L) (h : xlawC_14 (fun j => M 0 (i + j)) M m2) (hk : m2 0 = M 0 → xEv (296, 18, [some (53, 0), some (2, 1), some (13, 310), some (0, xw32 (i + 6))], [], m2) z) : xEv (296, 764, [some (53, 0), some (2, 1), some (13, 310), some (0, i)], [], M) z := by
  obtain ⟨r, h1, h2, e2⟩ := h
  have w1 := (xlaw_w 1 hi hj hL (by decide) (by decide)).1
  have b1 : 0 ≤ xw32 (i + 1) ∧ xw32 (i + 1) < M 0 4000 := by rw [hlen]; exact (xlaw_w 1 hi hj hL (by decide) (by decide)).2
  have d1 := b1
  have h1 : fD_why 1 (M 0 (xw32 (i + 1))) M = some r := by simp only [w1]; exact h1
  have h2 : fQ_why 310 (M 0 (xw32 (i + 1))) M = some (r, m2) := by simp only [w1]; exact h2
  refine xEvG_n xml xfetch 6 (y := (296, 770, [some (53, 0), some (2, 1), some (13, 310), some (0, i)], [(0, (M 0 (xw32 (i + 1)))), (2, 1)], M)) rfl ⟨b1, trivial⟩ ?_
  refine xEvG_call xml xfetch (q := (some (0, r), M)) rfl (hD_why 1 (M 0 (xw32 (i + 1))) M _ h1) ?_
  show xEv (296, 773, [some (53, 0), some (2, 1), some (13, 310), some (0, i)], [(0, r)], M) _
  refine xEvG_n xml xfetch 6 (y := (296, 779, [some (53, 0), some (2, 1), some (13, 310), some (0, i)], [(0, (M 0 (xw32 (i + 1)))), (13, 310), (0, r)], M)) rfl ⟨b1, trivial⟩ ?_
  refine xEvG_call xml xfetch (q := (some (0, r), m2)) rfl (hQ_why 310 (M 0 (xw32 (i + 1))) M _ h2) ?_
  show xEv (296, 782, [some (53, 0), some (2, 1), some (13, 310), some (0, i)], [(0, r), (0, r)], m2) _
  refine xEvG_n xml xfetch 1 (y := (296, if r = r then 2210 else 785, [some (53, 0), some (2, 1), some (13, 310), some (0, i)], [], m2)) rfl trivial ?_
  refine xEvG_br xml xfetch (fun _ => ?_) (fun c_ => absurd rfl c_)
  refine xEvG_n xml xfetch 2 (y := (296, 18, [some (53, 0), some (2, 1), some (13, 310), some (0, (xw32 (i + 6)))], [], m2)) rfl trivial ?_
  exact hk e2
def xlawC_15 (a : Int → Int) (M m2 : xM) : Prop := ∃ r : Int, fD_because 1 (a 1) (a 2) M = some r ∧ fQ_because 310 (a 1) (a 2) M = some (r, m2) ∧ m2 0 = M 0
theorem xlawS_15 {a : Int → Int} {M m2 : xM} (h : xlawC_15 a M m2) : m2 0 = M 0 := by
  obtain ⟨r, h1, h2, e2⟩ := h
  exact e2
theorem xlaw_15 {i L : Int} {M m2 : xM} {z : Option xV × xM} (hi : 0 ≤ i) (hj : i + 6 ≤ L) (hL : L ≤ 3072) (hlen : M 0 4000 = L) (h : xlawC_15 (fun j => M 0 (i + j)) M m2) (hk : m2 0 = M 0 → xEv (296, 18, [some (53, 0), some (2, 1), some (13, 310), some (0, xw32 (i + 6))], [], m2) z) : xEv (296, 787, [some (53, 0), some (2, 1), some (13, 310), some (0, i)], [], M) z := by
  obtain ⟨r, h1, h2, e2⟩ := h
  have w1 := (xlaw_w 1 hi hj hL (by decide) (by decide)).1
  have b1 : 0 ≤ xw32 (i + 1) ∧ xw32 (i + 1) < M 0 4000 := by rw [hlen]; exact (xlaw_w 1 hi hj hL (by decide) (by decide)).2
  have d1 := b1
  have w2 := (xlaw_w 2 hi hj hL (by decide) (by decide)).1
  have b2 : 0 ≤ xw32 (i + 2) ∧ xw32 (i + 2) < M 0 4000 := by rw [hlen]; exact (xlaw_w 2 hi hj hL (by decide) (by decide)).2
  have d2 := b2
  have h1 : fD_because 1 (M 0 (xw32 (i + 1))) (M 0 (xw32 (i + 2))) M = some r := by simp only [w1, w2]; exact h1
  have h2 : fQ_because 310 (M 0 (xw32 (i + 1))) (M 0 (xw32 (i + 2))) M = some (r, m2) := by simp only [w1, w2]; exact h2
  refine xEvG_n xml xfetch 11 (y := (296, 798, [some (53, 0), some (2, 1), some (13, 310), some (0, i)], [(0, (M 0 (xw32 (i + 2)))), (0, (M 0 (xw32 (i + 1)))), (2, 1)], M)) rfl ⟨b1, b2, trivial⟩ ?_
  refine xEvG_call xml xfetch (q := (some (0, r), M)) rfl (hD_because 1 (M 0 (xw32 (i + 1))) (M 0 (xw32 (i + 2))) M _ h1) ?_
  show xEv (296, 801, [some (53, 0), some (2, 1), some (13, 310), some (0, i)], [(0, r)], M) _
  refine xEvG_n xml xfetch 11 (y := (296, 812, [some (53, 0), some (2, 1), some (13, 310), some (0, i)], [(0, (M 0 (xw32 (i + 2)))), (0, (M 0 (xw32 (i + 1)))), (13, 310), (0, r)], M)) rfl ⟨b1, b2, trivial⟩ ?_
  refine xEvG_call xml xfetch (q := (some (0, r), m2)) rfl (hQ_because 310 (M 0 (xw32 (i + 1))) (M 0 (xw32 (i + 2))) M _ h2) ?_
  show xEv (296, 815, [some (53, 0), some (2, 1), some (13, 310), some (0, i)], [(0, r), (0, r)], m2) _
  refine xEvG_n xml xfetch 1 (y := (296, if r = r then 2210 else 818, [some (53, 0), some (2, 1), some (13, 310), some (0, i)], [], m2)) rfl trivial ?_
  refine xEvG_br xml xfetch (fun _ => ?_) (fun c_ => absurd rfl c_)
  refine xEvG_n xml xfetch 2 (y := (296, 18, [some (53, 0), some (2, 1), some (13, 310), some (0, (xw32 (i + 6)))], [], m2)) rfl trivial ?_
  exact hk e2
def xlawC_16 (a : Int → Int) (M m2 : xM) : Prop := ∃ r : Int, fD_out 1 (a 1) M = some r ∧ fQ_out 310 (a 1) M = some (r, m2) ∧ m2 0 = M 0
theorem xlawS_16 {a : Int → Int} {M m2 : xM} (h : xlawC_16 a M m2) : m2 0 = M 0 := by
  obtain ⟨r, h1, h2, e2⟩ := h
  exact e2
theorem xlaw_16 {i L : Int} {M m2 : xM} {z : Option xV × xM} (hi : 0 ≤ i) (hj : i + 6 ≤ L) (hL : L ≤ 3072) (hlen : M 0 4000 = L) (h : xlawC_16 (fun j => M 0 (i + j)) M m2) (hk : m2 0 = M 0 → xEv (296, 18, [some (53, 0), some (2, 1), some (13, 310), some (0, xw32 (i + 6))], [], m2) z) : xEv (296, 820, [some (53, 0), some (2, 1), some (13, 310), some (0, i)], [], M) z := by
  obtain ⟨r, h1, h2, e2⟩ := h
  have w1 := (xlaw_w 1 hi hj hL (by decide) (by decide)).1
  have b1 : 0 ≤ xw32 (i + 1) ∧ xw32 (i + 1) < M 0 4000 := by rw [hlen]; exact (xlaw_w 1 hi hj hL (by decide) (by decide)).2
  have d1 := b1
  have h1 : fD_out 1 (M 0 (xw32 (i + 1))) M = some r := by simp only [w1]; exact h1
  have h2 : fQ_out 310 (M 0 (xw32 (i + 1))) M = some (r, m2) := by simp only [w1]; exact h2
  refine xEvG_n xml xfetch 6 (y := (296, 826, [some (53, 0), some (2, 1), some (13, 310), some (0, i)], [(0, (M 0 (xw32 (i + 1)))), (2, 1)], M)) rfl ⟨b1, trivial⟩ ?_
  refine xEvG_call xml xfetch (q := (some (0, r), M)) rfl (hD_out 1 (M 0 (xw32 (i + 1))) M _ h1) ?_
  show xEv (296, 829, [some (53, 0), some (2, 1), some (13, 310), some (0, i)], [(0, r)], M) _
  refine xEvG_n xml xfetch 6 (y := (296, 835, [some (53, 0), some (2, 1), some (13, 310), some (0, i)], [(0, (M 0 (xw32 (i + 1)))), (13, 310), (0, r)], M)) rfl ⟨b1, trivial⟩ ?_
  refine xEvG_call xml xfetch (q := (some (0, r), m2)) rfl (hQ_out 310 (M 0 (xw32 (i + 1))) M _ h2) ?_
  show xEv (296, 838, [some (53, 0), some (2, 1), some (13, 310), some (0, i)], [(0, r), (0, r)], m2) _
  refine xEvG_n xml xfetch 1 (y := (296, if r = r then 2210 else 841, [some (53, 0), some (2, 1), some (13, 310), some (0, i)], [], m2)) rfl trivial ?_
  refine xEvG_br xml xfetch (fun _ => ?_) (fun c_ => absurd rfl c_)
  refine xEvG_n xml xfetch 2 (y := (296, 18, [some (53, 0), some (2, 1), some (13, 310), some (0, (xw32 (i + 6)))], [], m2)) rfl trivial ?_
  exact hk e2
def xlawC_17 (a : Int → Int) (M m2 : xM) : Prop := ∃ r : Int, fD_free 1 (a 1) M = some r ∧ fQ_free 310 (a 1) M = some (r, m2) ∧ m2 0 = M 0
theorem xlawS_17 {a : Int → Int} {M m2 : xM} (h : xlawC_17 a M m2) : m2 0 = M 0 := by
  obtain ⟨r, h1, h2, e2⟩ := h
  exact e2
theorem xlaw_17 {i L : Int} {M m2 : xM} {z : Option xV × xM} (hi : 0 ≤ i) (hj : i + 6 ≤ L) (hL : L ≤ 3072) (hlen : M 0 4000 = L) (h : xlawC_17 (fun j => M 0 (i + j)) M m2) (hk : m2 0 = M 0 → xEv (296, 18, [some (53, 0), some (2, 1), some (13, 310), some (0, xw32 (i + 6))], [], m2) z) : xEv (296, 843, [some (53, 0), some (2, 1), some (13, 310), some (0, i)], [], M) z := by
  obtain ⟨r, h1, h2, e2⟩ := h
  have w1 := (xlaw_w 1 hi hj hL (by decide) (by decide)).1
  have b1 : 0 ≤ xw32 (i + 1) ∧ xw32 (i + 1) < M 0 4000 := by rw [hlen]; exact (xlaw_w 1 hi hj hL (by decide) (by decide)).2
  have d1 := b1
  have h1 : fD_free 1 (M 0 (xw32 (i + 1))) M = some r := by simp only [w1]; exact h1
  have h2 : fQ_free 310 (M 0 (xw32 (i + 1))) M = some (r, m2) := by simp only [w1]; exact h2
  refine xEvG_n xml xfetch 6 (y := (296, 849, [some (53, 0), some (2, 1), some (13, 310), some (0, i)], [(0, (M 0 (xw32 (i + 1)))), (2, 1)], M)) rfl ⟨b1, trivial⟩ ?_
  refine xEvG_call xml xfetch (q := (some (0, r), M)) rfl (hD_free 1 (M 0 (xw32 (i + 1))) M _ h1) ?_
  show xEv (296, 852, [some (53, 0), some (2, 1), some (13, 310), some (0, i)], [(0, r)], M) _
  refine xEvG_n xml xfetch 6 (y := (296, 858, [some (53, 0), some (2, 1), some (13, 310), some (0, i)], [(0, (M 0 (xw32 (i + 1)))), (13, 310), (0, r)], M)) rfl ⟨b1, trivial⟩ ?_
  refine xEvG_call xml xfetch (q := (some (0, r), m2)) rfl (hQ_free 310 (M 0 (xw32 (i + 1))) M _ h2) ?_
  show xEv (296, 861, [some (53, 0), some (2, 1), some (13, 310), some (0, i)], [(0, r), (0, r)], m2) _
  refine xEvG_n xml xfetch 1 (y := (296, if r = r then 2210 else 864, [some (53, 0), some (2, 1), some (13, 310), some (0, i)], [], m2)) rfl trivial ?_
  refine xEvG_br xml xfetch (fun _ => ?_) (fun c_ => absurd rfl c_)
  refine xEvG_n xml xfetch 2 (y := (296, 18, [some (53, 0), some (2, 1), some (13, 310), some (0, (xw32 (i + 6)))], [], m2)) rfl trivial ?_
  exact hk e2
def xlawC_18 (a : Int → Int) (M m2 : xM) : Prop := ∃ r : Int, fD_turned 1 (a 1) M = some r ∧ fQ_turned 310 (a 1) M = some (r, m2) ∧ m2 0 = M 0
theorem xlawS_18 {a : Int → Int} {M m2 : xM} (h : xlawC_18 a M m2) : m2 0 = M 0 := by
  obtain ⟨r, h1, h2, e2⟩ := h
  exact e2
theorem xlaw_18 {i L : Int} {M m2 : xM} {z : Option xV × xM} (hi : 0 ≤ i) (hj : i + 6 ≤ L) (hL : L ≤ 3072) (hlen : M 0 4000 = L) (h : xlawC_18 (fun j => M 0 (i + j)) M m2) (hk : m2 0 = M 0 → xEv (296, 18, [some (53, 0), some (2, 1), some (13, 310), some (0, xw32 (i + 6))], [], m2) z) : xEv (296, 866, [some (53, 0), some (2, 1), some (13, 310), some (0, i)], [], M) z := by
  obtain ⟨r, h1, h2, e2⟩ := h
  have w1 := (xlaw_w 1 hi hj hL (by decide) (by decide)).1
  have b1 : 0 ≤ xw32 (i + 1) ∧ xw32 (i + 1) < M 0 4000 := by rw [hlen]; exact (xlaw_w 1 hi hj hL (by decide) (by decide)).2
  have d1 := b1
  have h1 : fD_turned 1 (M 0 (xw32 (i + 1))) M = some r := by simp only [w1]; exact h1
  have h2 : fQ_turned 310 (M 0 (xw32 (i + 1))) M = some (r, m2) := by simp only [w1]; exact h2
  refine xEvG_n xml xfetch 6 (y := (296, 872, [some (53, 0), some (2, 1), some (13, 310), some (0, i)], [(0, (M 0 (xw32 (i + 1)))), (2, 1)], M)) rfl ⟨b1, trivial⟩ ?_
  refine xEvG_call xml xfetch (q := (some (0, r), M)) rfl (hD_turned 1 (M 0 (xw32 (i + 1))) M _ h1) ?_
  show xEv (296, 875, [some (53, 0), some (2, 1), some (13, 310), some (0, i)], [(0, r)], M) _
  refine xEvG_n xml xfetch 6 (y := (296, 881, [some (53, 0), some (2, 1), some (13, 310), some (0, i)], [(0, (M 0 (xw32 (i + 1)))), (13, 310), (0, r)], M)) rfl ⟨b1, trivial⟩ ?_
  refine xEvG_call xml xfetch (q := (some (0, r), m2)) rfl (hQ_turned 310 (M 0 (xw32 (i + 1))) M _ h2) ?_
  show xEv (296, 884, [some (53, 0), some (2, 1), some (13, 310), some (0, i)], [(0, r), (0, r)], m2) _
  refine xEvG_n xml xfetch 1 (y := (296, if r = r then 2210 else 887, [some (53, 0), some (2, 1), some (13, 310), some (0, i)], [], m2)) rfl trivial ?_
  refine xEvG_br xml xfetch (fun _ => ?_) (fun c_ => absurd rfl c_)
  refine xEvG_n xml xfetch 2 (y := (296, 18, [some (53, 0), some (2, 1), some (13, 310), some (0, (xw32 (i + 6)))], [], m2)) rfl trivial ?_
  exact hk e2
def xlawC_19 (a : Int → Int) (M m2 : xM) : Prop := ∃ r : Int, fD_wrist 1 (a 1) (a 2) M = some r ∧ fQ_wrist 310 (a 1) (a 2) M = some (r, m2) ∧ m2 0 = M 0
theorem xlawS_19 {a : Int → Int} {M m2 : xM} (h : xlawC_19 a M m2) : m2 0 = M 0 := by
  obtain ⟨r, h1, h2, e2⟩ := h
  exact e2
theorem xlaw_19 {i L : Int} {M m2 : xM} {z : Option xV × xM} (hi : 0 ≤ i) (hj : i + 6 ≤ L) (hL : L ≤ 3072) (hlen : M 0 4000 = L) (h : xlawC_19 (fun j => M 0 (i + j)) M m2) (hk : m2 0 = M 0 → xEv (296, 18, [some (53, 0), some (2, 1), some (13, 310), some (0, xw32 (i + 6))], [], m2) z) : xEv (296, 889, [some (53, 0), some (2, 1), some (13, 310), some (0, i)], [], M) z := by
  obtain ⟨r, h1, h2, e2⟩ := h
  have w1 := (xlaw_w 1 hi hj hL (by decide) (by decide)).1
  have b1 : 0 ≤ xw32 (i + 1) ∧ xw32 (i + 1) < M 0 4000 := by rw [hlen]; exact (xlaw_w 1 hi hj hL (by decide) (by decide)).2
  have d1 := b1
  have w2 := (xlaw_w 2 hi hj hL (by decide) (by decide)).1
  have b2 : 0 ≤ xw32 (i + 2) ∧ xw32 (i + 2) < M 0 4000 := by rw [hlen]; exact (xlaw_w 2 hi hj hL (by decide) (by decide)).2
  have d2 := b2
  have h1 : fD_wrist 1 (M 0 (xw32 (i + 1))) (M 0 (xw32 (i + 2))) M = some r := by simp only [w1, w2]; exact h1
  have h2 : fQ_wrist 310 (M 0 (xw32 (i + 1))) (M 0 (xw32 (i + 2))) M = some (r, m2) := by simp only [w1, w2]; exact h2
  refine xEvG_n xml xfetch 11 (y := (296, 900, [some (53, 0), some (2, 1), some (13, 310), some (0, i)], [(0, (M 0 (xw32 (i + 2)))), (0, (M 0 (xw32 (i + 1)))), (2, 1)], M)) rfl ⟨b1, b2, trivial⟩ ?_
  refine xEvG_call xml xfetch (q := (some (0, r), M)) rfl (hD_wrist 1 (M 0 (xw32 (i + 1))) (M 0 (xw32 (i + 2))) M _ h1) ?_
  show xEv (296, 903, [some (53, 0), some (2, 1), some (13, 310), some (0, i)], [(0, r)], M) _
  refine xEvG_n xml xfetch 11 (y := (296, 914, [some (53, 0), some (2, 1), some (13, 310), some (0, i)], [(0, (M 0 (xw32 (i + 2)))), (0, (M 0 (xw32 (i + 1)))), (13, 310), (0, r)], M)) rfl ⟨b1, b2, trivial⟩ ?_
  refine xEvG_call xml xfetch (q := (some (0, r), m2)) rfl (hQ_wrist 310 (M 0 (xw32 (i + 1))) (M 0 (xw32 (i + 2))) M _ h2) ?_
  show xEv (296, 917, [some (53, 0), some (2, 1), some (13, 310), some (0, i)], [(0, r), (0, r)], m2) _
  refine xEvG_n xml xfetch 1 (y := (296, if r = r then 2210 else 920, [some (53, 0), some (2, 1), some (13, 310), some (0, i)], [], m2)) rfl trivial ?_
  refine xEvG_br xml xfetch (fun _ => ?_) (fun c_ => absurd rfl c_)
  refine xEvG_n xml xfetch 2 (y := (296, 18, [some (53, 0), some (2, 1), some (13, 310), some (0, (xw32 (i + 6)))], [], m2)) rfl trivial ?_
  exact hk e2
def xlawC_20 (a : Int → Int) (M m2 : xM) : Prop := ∃ r : Int, fD_vain 1 M = some r ∧ fQ_vain 310 M = some (r, m2) ∧ m2 0 = M 0
theorem xlawS_20 {a : Int → Int} {M m2 : xM} (h : xlawC_20 a M m2) : m2 0 = M 0 := by
  obtain ⟨r, h1, h2, e2⟩ := h
  exact e2
theorem xlaw_20 {i L : Int} {M m2 : xM} {z : Option xV × xM} (hi : 0 ≤ i) (hj : i + 6 ≤ L) (hL : L ≤ 3072) (hlen : M 0 4000 = L) (h : xlawC_20 (fun j => M 0 (i + j)) M m2) (hk : m2 0 = M 0 → xEv (296, 18, [some (53, 0), some (2, 1), some (13, 310), some (0, xw32 (i + 6))], [], m2) z) : xEv (296, 922, [some (53, 0), some (2, 1), some (13, 310), some (0, i)], [], M) z := by
  obtain ⟨r, h1, h2, e2⟩ := h
  refine xEvG_n xml xfetch 1 (y := (296, 923, [some (53, 0), some (2, 1), some (13, 310), some (0, i)], [(2, 1)], M)) rfl trivial ?_
  refine xEvG_call xml xfetch (q := (some (0, r), M)) rfl (hD_vain 1 M _ h1) ?_
  show xEv (296, 926, [some (53, 0), some (2, 1), some (13, 310), some (0, i)], [(0, r)], M) _
  refine xEvG_n xml xfetch 1 (y := (296, 927, [some (53, 0), some (2, 1), some (13, 310), some (0, i)], [(13, 310), (0, r)], M)) rfl trivial ?_
  refine xEvG_call xml xfetch (q := (some (0, r), m2)) rfl (hQ_vain 310 M _ h2) ?_
  show xEv (296, 930, [some (53, 0), some (2, 1), some (13, 310), some (0, i)], [(0, r), (0, r)], m2) _
  refine xEvG_n xml xfetch 1 (y := (296, if r = r then 2210 else 933, [some (53, 0), some (2, 1), some (13, 310), some (0, i)], [], m2)) rfl trivial ?_
  refine xEvG_br xml xfetch (fun _ => ?_) (fun c_ => absurd rfl c_)
  refine xEvG_n xml xfetch 2 (y := (296, 18, [some (53, 0), some (2, 1), some (13, 310), some (0, (xw32 (i + 6)))], [], m2)) rfl trivial ?_
  exact hk e2
def xlawC_21 (a : Int → Int) (M m2 : xM) : Prop := ∃ r : Int, fD_most 1 (a 1) M = some r ∧ fQ_most 310 (a 1) M = some (r, m2) ∧ m2 0 = M 0
theorem xlawS_21 {a : Int → Int} {M m2 : xM} (h : xlawC_21 a M m2) : m2 0 = M 0 := by
  obtain ⟨r, h1, h2, e2⟩ := h
  exact e2
theorem xlaw_21 {i L : Int} {M m2 : xM} {z : Option xV × xM} (hi : 0 ≤ i) (hj : i + 6 ≤ L) (hL : L ≤ 3072) (hlen : M 0 4000 = L) (h : xlawC_21 (fun j => M 0 (i + j)) M m2) (hk : m2 0 = M 0 → xEv (296, 18, [some (53, 0), some (2, 1), some (13, 310), some (0, xw32 (i + 6))], [], m2) z) : xEv (296, 935, [some (53, 0), some (2, 1), some (13, 310), some (0, i)], [], M) z := by
  obtain ⟨r, h1, h2, e2⟩ := h
  have w1 := (xlaw_w 1 hi hj hL (by decide) (by decide)).1
  have b1 : 0 ≤ xw32 (i + 1) ∧ xw32 (i + 1) < M 0 4000 := by rw [hlen]; exact (xlaw_w 1 hi hj hL (by decide) (by decide)).2
  have d1 := b1
  have h1 : fD_most 1 (M 0 (xw32 (i + 1))) M = some r := by simp only [w1]; exact h1
  have h2 : fQ_most 310 (M 0 (xw32 (i + 1))) M = some (r, m2) := by simp only [w1]; exact h2
  refine xEvG_n xml xfetch 6 (y := (296, 941, [some (53, 0), some (2, 1), some (13, 310), some (0, i)], [(0, (M 0 (xw32 (i + 1)))), (2, 1)], M)) rfl ⟨b1, trivial⟩ ?_
  refine xEvG_call xml xfetch (q := (some (0, r), M)) rfl (hD_most 1 (M 0 (xw32 (i + 1))) M _ h1) ?_
  show xEv (296, 944, [some (53, 0), some (2, 1), some (13, 310), some (0, i)], [(0, r)], M) _
  refine xEvG_n xml xfetch 6 (y := (296, 950, [some (53, 0), some (2, 1), some (13, 310), some (0, i)], [(0, (M 0 (xw32 (i + 1)))), (13, 310), (0, r)], M)) rfl ⟨b1, trivial⟩ ?_
  refine xEvG_call xml xfetch (q := (some (0, r), m2)) rfl (hQ_most 310 (M 0 (xw32 (i + 1))) M _ h2) ?_
  show xEv (296, 953, [some (53, 0), some (2, 1), some (13, 310), some (0, i)], [(0, r), (0, r)], m2) _
  refine xEvG_n xml xfetch 1 (y := (296, if r = r then 2210 else 956, [some (53, 0), some (2, 1), some (13, 310), some (0, i)], [], m2)) rfl trivial ?_
  refine xEvG_br xml xfetch (fun _ => ?_) (fun c_ => absurd rfl c_)
  refine xEvG_n xml xfetch 2 (y := (296, 18, [some (53, 0), some (2, 1), some (13, 310), some (0, (xw32 (i + 6)))], [], m2)) rfl trivial ?_
  exact hk e2
def xlawC_22 (a : Int → Int) (M m2 : xM) : Prop := ∃ r : Int, ∃ m1 : xM, fD_best 1 (a 1) M = some (r, m1) ∧ m1 0 = M 0 ∧ fQ_best 310 (a 1) m1 = some (r, m2) ∧ m2 0 = M 0
theorem xlawS_22 {a : Int → Int} {M m2 : xM} (h : xlawC_22 a M m2) : m2 0 = M 0 := by
  obtain ⟨r, m1, h1, e1, h2, e2⟩ := h
  exact e2
theorem xlaw_22 {i L : Int} {M m2 : xM} {z : Option xV × xM} (hi : 0 ≤ i) (hj : i + 6 ≤ L) (hL : L ≤ 3072) (hlen : M 0 4000 = L) (h : xlawC_22 (fun j => M 0 (i + j)) M m2) (hk : m2 0 = M 0 → xEv (296, 18, [some (53, 0), some (2, 1), some (13, 310), some (0, xw32 (i + 6))], [], m2) z) : xEv (296, 958, [some (53, 0), some (2, 1), some (13, 310), some (0, i)], [], M) z := by
  obtain ⟨r, m1, h1, e1, h2, e2⟩ := h
  have w1 := (xlaw_w 1 hi hj hL (by decide) (by decide)).1
  have b1 : 0 ≤ xw32 (i + 1) ∧ xw32 (i + 1) < M 0 4000 := by rw [hlen]; exact (xlaw_w 1 hi hj hL (by decide) (by decide)).2
  have d1 : 0 ≤ xw32 (i + 1) ∧ xw32 (i + 1) < m1 0 4000 := by rw [e1]; exact b1
  have h1 : fD_best 1 (M 0 (xw32 (i + 1))) M = some (r, m1) := by simp only [w1]; exact h1
  have h2 : fQ_best 310 (m1 0 (xw32 (i + 1))) m1 = some (r, m2) := by simp only [e1, w1]; exact h2
  refine xEvG_n xml xfetch 6 (y := (296, 964, [some (53, 0), some (2, 1), some (13, 310), some (0, i)], [(0, (M 0 (xw32 (i + 1)))), (2, 1)], M)) rfl ⟨b1, trivial⟩ ?_
  refine xEvG_call xml xfetch (q := (some (0, r), m1)) rfl (hD_best 1 (M 0 (xw32 (i + 1))) M _ h1) ?_
  show xEv (296, 967, [some (53, 0), some (2, 1), some (13, 310), some (0, i)], [(0, r)], m1) _
  refine xEvG_n xml xfetch 6 (y := (296, 973, [some (53, 0), some (2, 1), some (13, 310), some (0, i)], [(0, (m1 0 (xw32 (i + 1)))), (13, 310), (0, r)], m1)) rfl ⟨d1, trivial⟩ ?_
  refine xEvG_call xml xfetch (q := (some (0, r), m2)) rfl (hQ_best 310 (m1 0 (xw32 (i + 1))) m1 _ h2) ?_
  show xEv (296, 976, [some (53, 0), some (2, 1), some (13, 310), some (0, i)], [(0, r), (0, r)], m2) _
  refine xEvG_n xml xfetch 1 (y := (296, if r = r then 2210 else 979, [some (53, 0), some (2, 1), some (13, 310), some (0, i)], [], m2)) rfl trivial ?_
  refine xEvG_br xml xfetch (fun _ => ?_) (fun c_ => absurd rfl c_)
  refine xEvG_n xml xfetch 2 (y := (296, 18, [some (53, 0), some (2, 1), some (13, 310), some (0, (xw32 (i + 6)))], [], m2)) rfl trivial ?_
  exact hk e2
def xlawC_23 (a : Int → Int) (M m2 : xM) : Prop := ∃ r : Int, fD_soonest 1 (a 1) M = some r ∧ fQ_soonest 310 (a 1) M = some (r, m2) ∧ m2 0 = M 0
theorem xlawS_23 {a : Int → Int} {M m2 : xM} (h : xlawC_23 a M m2) : m2 0 = M 0 := by
  obtain ⟨r, h1, h2, e2⟩ := h
  exact e2
theorem xlaw_23 {i L : Int} {M m2 : xM} {z : Option xV × xM} (hi : 0 ≤ i) (hj : i + 6 ≤ L) (hL : L ≤ 3072) (hlen : M 0 4000 = L) (h : xlawC_23 (fun j => M 0 (i + j)) M m2) (hk : m2 0 = M 0 → xEv (296, 18, [some (53, 0), some (2, 1), some (13, 310), some (0, xw32 (i + 6))], [], m2) z) : xEv (296, 981, [some (53, 0), some (2, 1), some (13, 310), some (0, i)], [], M) z := by
  obtain ⟨r, h1, h2, e2⟩ := h
  have w1 := (xlaw_w 1 hi hj hL (by decide) (by decide)).1
  have b1 : 0 ≤ xw32 (i + 1) ∧ xw32 (i + 1) < M 0 4000 := by rw [hlen]; exact (xlaw_w 1 hi hj hL (by decide) (by decide)).2
  have d1 := b1
  have h1 : fD_soonest 1 (M 0 (xw32 (i + 1))) M = some r := by simp only [w1]; exact h1
  have h2 : fQ_soonest 310 (M 0 (xw32 (i + 1))) M = some (r, m2) := by simp only [w1]; exact h2
  refine xEvG_n xml xfetch 6 (y := (296, 987, [some (53, 0), some (2, 1), some (13, 310), some (0, i)], [(0, (M 0 (xw32 (i + 1)))), (2, 1)], M)) rfl ⟨b1, trivial⟩ ?_
  refine xEvG_call xml xfetch (q := (some (0, r), M)) rfl (hD_soonest 1 (M 0 (xw32 (i + 1))) M _ h1) ?_
  show xEv (296, 990, [some (53, 0), some (2, 1), some (13, 310), some (0, i)], [(0, r)], M) _
  refine xEvG_n xml xfetch 6 (y := (296, 996, [some (53, 0), some (2, 1), some (13, 310), some (0, i)], [(0, (M 0 (xw32 (i + 1)))), (13, 310), (0, r)], M)) rfl ⟨b1, trivial⟩ ?_
  refine xEvG_call xml xfetch (q := (some (0, r), m2)) rfl (hQ_soonest 310 (M 0 (xw32 (i + 1))) M _ h2) ?_
  show xEv (296, 999, [some (53, 0), some (2, 1), some (13, 310), some (0, i)], [(0, r), (0, r)], m2) _
  refine xEvG_n xml xfetch 1 (y := (296, if r = r then 2210 else 1002, [some (53, 0), some (2, 1), some (13, 310), some (0, i)], [], m2)) rfl trivial ?_
  refine xEvG_br xml xfetch (fun _ => ?_) (fun c_ => absurd rfl c_)
  refine xEvG_n xml xfetch 2 (y := (296, 18, [some (53, 0), some (2, 1), some (13, 310), some (0, (xw32 (i + 6)))], [], m2)) rfl trivial ?_
  exact hk e2
def xlawC_24 (a : Int → Int) (M m2 : xM) : Prop := ∃ r : Int, fD_sets 1 (a 1) M = some r ∧ fQ_sets1 310 (a 1) M = some (r, m2) ∧ m2 0 = M 0
theorem xlawS_24 {a : Int → Int} {M m2 : xM} (h : xlawC_24 a M m2) : m2 0 = M 0 := by
  obtain ⟨r, h1, h2, e2⟩ := h
  exact e2
theorem xlaw_24 {i L : Int} {M m2 : xM} {z : Option xV × xM} (hi : 0 ≤ i) (hj : i + 6 ≤ L) (hL : L ≤ 3072) (hlen : M 0 4000 = L) (h : xlawC_24 (fun j => M 0 (i + j)) M m2) (hk : m2 0 = M 0 → xEv (296, 18, [some (53, 0), some (2, 1), some (13, 310), some (0, xw32 (i + 6))], [], m2) z) : xEv (296, 1004, [some (53, 0), some (2, 1), some (13, 310), some (0, i)], [], M) z := by
  obtain ⟨r, h1, h2, e2⟩ := h
  have w1 := (xlaw_w 1 hi hj hL (by decide) (by decide)).1
  have b1 : 0 ≤ xw32 (i + 1) ∧ xw32 (i + 1) < M 0 4000 := by rw [hlen]; exact (xlaw_w 1 hi hj hL (by decide) (by decide)).2
  have d1 := b1
  have h1 : fD_sets 1 (M 0 (xw32 (i + 1))) M = some r := by simp only [w1]; exact h1
  have h2 : fQ_sets1 310 (M 0 (xw32 (i + 1))) M = some (r, m2) := by simp only [w1]; exact h2
  refine xEvG_n xml xfetch 6 (y := (296, 1010, [some (53, 0), some (2, 1), some (13, 310), some (0, i)], [(0, (M 0 (xw32 (i + 1)))), (2, 1)], M)) rfl ⟨b1, trivial⟩ ?_
  refine xEvG_call xml xfetch (q := (some (0, r), M)) rfl (hD_sets 1 (M 0 (xw32 (i + 1))) M _ h1) ?_
  show xEv (296, 1013, [some (53, 0), some (2, 1), some (13, 310), some (0, i)], [(0, r)], M) _
  refine xEvG_n xml xfetch 6 (y := (296, 1019, [some (53, 0), some (2, 1), some (13, 310), some (0, i)], [(0, (M 0 (xw32 (i + 1)))), (13, 310), (0, r)], M)) rfl ⟨b1, trivial⟩ ?_
  refine xEvG_call xml xfetch (q := (some (0, r), m2)) rfl (hQ_sets1 310 (M 0 (xw32 (i + 1))) M _ h2) ?_
  show xEv (296, 1022, [some (53, 0), some (2, 1), some (13, 310), some (0, i)], [(0, r), (0, r)], m2) _
  refine xEvG_n xml xfetch 1 (y := (296, if r = r then 2210 else 1025, [some (53, 0), some (2, 1), some (13, 310), some (0, i)], [], m2)) rfl trivial ?_
  refine xEvG_br xml xfetch (fun _ => ?_) (fun c_ => absurd rfl c_)
  refine xEvG_n xml xfetch 2 (y := (296, 18, [some (53, 0), some (2, 1), some (13, 310), some (0, (xw32 (i + 6)))], [], m2)) rfl trivial ?_
  exact hk e2
def xlawC_25 (a : Int → Int) (M m2 : xM) : Prop := ∃ r : Int, fD_together 1 (a 1) M = some r ∧ fQ_together 310 (a 1) M = some (r, m2) ∧ m2 0 = M 0
theorem xlawS_25 {a : Int → Int} {M m2 : xM} (h : xlawC_25 a M m2) : m2 0 = M 0 := by
  obtain ⟨r, h1, h2, e2⟩ := h
  exact e2
theorem xlaw_25 {i L : Int} {M m2 : xM} {z : Option xV × xM} (hi : 0 ≤ i) (hj : i + 6 ≤ L) (hL : L ≤ 3072) (hlen : M 0 4000 = L) (h : xlawC_25 (fun j => M 0 (i + j)) M m2) (hk : m2 0 = M 0 → xEv (296, 18, [some (53, 0), some (2, 1), some (13, 310), some (0, xw32 (i + 6))], [], m2) z) : xEv (296, 1027, [some (53, 0), some (2, 1), some (13, 310), some (0, i)], [], M) z := by
  obtain ⟨r, h1, h2, e2⟩ := h
  have w1 := (xlaw_w 1 hi hj hL (by decide) (by decide)).1
  have b1 : 0 ≤ xw32 (i + 1) ∧ xw32 (i + 1) < M 0 4000 := by rw [hlen]; exact (xlaw_w 1 hi hj hL (by decide) (by decide)).2
  have d1 := b1
  have h1 : fD_together 1 (M 0 (xw32 (i + 1))) M = some r := by simp only [w1]; exact h1
  have h2 : fQ_together 310 (M 0 (xw32 (i + 1))) M = some (r, m2) := by simp only [w1]; exact h2
  refine xEvG_n xml xfetch 6 (y := (296, 1033, [some (53, 0), some (2, 1), some (13, 310), some (0, i)], [(0, (M 0 (xw32 (i + 1)))), (2, 1)], M)) rfl ⟨b1, trivial⟩ ?_
  refine xEvG_call xml xfetch (q := (some (0, r), M)) rfl (hD_together 1 (M 0 (xw32 (i + 1))) M _ h1) ?_
  show xEv (296, 1036, [some (53, 0), some (2, 1), some (13, 310), some (0, i)], [(0, r)], M) _
  refine xEvG_n xml xfetch 6 (y := (296, 1042, [some (53, 0), some (2, 1), some (13, 310), some (0, i)], [(0, (M 0 (xw32 (i + 1)))), (13, 310), (0, r)], M)) rfl ⟨b1, trivial⟩ ?_
  refine xEvG_call xml xfetch (q := (some (0, r), m2)) rfl (hQ_together 310 (M 0 (xw32 (i + 1))) M _ h2) ?_
  show xEv (296, 1045, [some (53, 0), some (2, 1), some (13, 310), some (0, i)], [(0, r), (0, r)], m2) _
  refine xEvG_n xml xfetch 1 (y := (296, if r = r then 2210 else 1048, [some (53, 0), some (2, 1), some (13, 310), some (0, i)], [], m2)) rfl trivial ?_
  refine xEvG_br xml xfetch (fun _ => ?_) (fun c_ => absurd rfl c_)
  refine xEvG_n xml xfetch 2 (y := (296, 18, [some (53, 0), some (2, 1), some (13, 310), some (0, (xw32 (i + 6)))], [], m2)) rfl trivial ?_
  exact hk e2
def xlawC_26 (a : Int → Int) (M m2 : xM) : Prop := ∃ r : Int, fD_locked 1 M = some r ∧ fQ_locked 310 M = some (r, m2) ∧ m2 0 = M 0
theorem xlawS_26 {a : Int → Int} {M m2 : xM} (h : xlawC_26 a M m2) : m2 0 = M 0 := by
  obtain ⟨r, h1, h2, e2⟩ := h
  exact e2
theorem xlaw_26 {i L : Int} {M m2 : xM} {z : Option xV × xM} (hi : 0 ≤ i) (hj : i + 6 ≤ L) (hL : L ≤ 3072) (hlen : M 0 4000 = L) (h : xlawC_26 (fun j => M 0 (i + j)) M m2) (hk : m2 0 = M 0 → xEv (296, 18, [some (53, 0), some (2, 1), some (13, 310), some (0, xw32 (i + 6))], [], m2) z) : xEv (296, 1050, [some (53, 0), some (2, 1), some (13, 310), some (0, i)], [], M) z := by
  obtain ⟨r, h1, h2, e2⟩ := h
  refine xEvG_n xml xfetch 1 (y := (296, 1051, [some (53, 0), some (2, 1), some (13, 310), some (0, i)], [(2, 1)], M)) rfl trivial ?_
  refine xEvG_call xml xfetch (q := (some (0, r), M)) rfl (hD_locked 1 M _ h1) ?_
  show xEv (296, 1054, [some (53, 0), some (2, 1), some (13, 310), some (0, i)], [(0, r)], M) _
  refine xEvG_n xml xfetch 1 (y := (296, 1055, [some (53, 0), some (2, 1), some (13, 310), some (0, i)], [(13, 310), (0, r)], M)) rfl trivial ?_
  refine xEvG_call xml xfetch (q := (some (0, r), m2)) rfl (hQ_locked 310 M _ h2) ?_
  show xEv (296, 1058, [some (53, 0), some (2, 1), some (13, 310), some (0, i)], [(0, r), (0, r)], m2) _
  refine xEvG_n xml xfetch 1 (y := (296, if r = r then 2210 else 1061, [some (53, 0), some (2, 1), some (13, 310), some (0, i)], [], m2)) rfl trivial ?_
  refine xEvG_br xml xfetch (fun _ => ?_) (fun c_ => absurd rfl c_)
  refine xEvG_n xml xfetch 2 (y := (296, 18, [some (53, 0), some (2, 1), some (13, 310), some (0, (xw32 (i + 6)))], [], m2)) rfl trivial ?_
  exact hk e2
def xlawC_27 (a : Int → Int) (M m2 : xM) : Prop := ∃ r : Int, fD_others 1 (a 1) M = some r ∧ fQ_others 310 (a 1) M = some (r, m2) ∧ m2 0 = M 0
theorem xlawS_27 {a : Int → Int} {M m2 : xM} (h : xlawC_27 a M m2) : m2 0 = M 0 := by
  obtain ⟨r, h1, h2, e2⟩ := h
  exact e2
theorem xlaw_27 {i L : Int} {M m2 : xM} {z : Option xV × xM} (hi : 0 ≤ i) (hj : i + 6 ≤ L) (hL : L ≤ 3072) (hlen : M 0 4000 = L) (h : xlawC_27 (fun j => M 0 (i + j)) M m2) (hk : m2 0 = M 0 → xEv (296, 18, [some (53, 0), some (2, 1), some (13, 310), some (0, xw32 (i + 6))], [], m2) z) : xEv (296, 1063, [some (53, 0), some (2, 1), some (13, 310), some (0, i)], [], M) z := by
  obtain ⟨r, h1, h2, e2⟩ := h
  have w1 := (xlaw_w 1 hi hj hL (by decide) (by decide)).1
  have b1 : 0 ≤ xw32 (i + 1) ∧ xw32 (i + 1) < M 0 4000 := by rw [hlen]; exact (xlaw_w 1 hi hj hL (by decide) (by decide)).2
  have d1 := b1
  have h1 : fD_others 1 (M 0 (xw32 (i + 1))) M = some r := by simp only [w1]; exact h1
  have h2 : fQ_others 310 (M 0 (xw32 (i + 1))) M = some (r, m2) := by simp only [w1]; exact h2
  refine xEvG_n xml xfetch 6 (y := (296, 1069, [some (53, 0), some (2, 1), some (13, 310), some (0, i)], [(0, (M 0 (xw32 (i + 1)))), (2, 1)], M)) rfl ⟨b1, trivial⟩ ?_
  refine xEvG_call xml xfetch (q := (some (0, r), M)) rfl (hD_others 1 (M 0 (xw32 (i + 1))) M _ h1) ?_
  show xEv (296, 1072, [some (53, 0), some (2, 1), some (13, 310), some (0, i)], [(0, r)], M) _
  refine xEvG_n xml xfetch 6 (y := (296, 1078, [some (53, 0), some (2, 1), some (13, 310), some (0, i)], [(0, (M 0 (xw32 (i + 1)))), (13, 310), (0, r)], M)) rfl ⟨b1, trivial⟩ ?_
  refine xEvG_call xml xfetch (q := (some (0, r), m2)) rfl (hQ_others 310 (M 0 (xw32 (i + 1))) M _ h2) ?_
  show xEv (296, 1081, [some (53, 0), some (2, 1), some (13, 310), some (0, i)], [(0, r), (0, r)], m2) _
  refine xEvG_n xml xfetch 1 (y := (296, if r = r then 2210 else 1084, [some (53, 0), some (2, 1), some (13, 310), some (0, i)], [], m2)) rfl trivial ?_
  refine xEvG_br xml xfetch (fun _ => ?_) (fun c_ => absurd rfl c_)
  refine xEvG_n xml xfetch 2 (y := (296, 18, [some (53, 0), some (2, 1), some (13, 310), some (0, (xw32 (i + 6)))], [], m2)) rfl trivial ?_
  exact hk e2
def xlawC_28 (a : Int → Int) (M m2 : xM) : Prop := ∃ r : Int, fD_latest 1 (a 1) M = some r ∧ fQ_latest 310 (a 1) M = some (r, m2) ∧ m2 0 = M 0
theorem xlawS_28 {a : Int → Int} {M m2 : xM} (h : xlawC_28 a M m2) : m2 0 = M 0 := by
  obtain ⟨r, h1, h2, e2⟩ := h
  exact e2
theorem xlaw_28 {i L : Int} {M m2 : xM} {z : Option xV × xM} (hi : 0 ≤ i) (hj : i + 6 ≤ L) (hL : L ≤ 3072) (hlen : M 0 4000 = L) (h : xlawC_28 (fun j => M 0 (i + j)) M m2) (hk : m2 0 = M 0 → xEv (296, 18, [some (53, 0), some (2, 1), some (13, 310), some (0, xw32 (i + 6))], [], m2) z) : xEv (296, 1086, [some (53, 0), some (2, 1), some (13, 310), some (0, i)], [], M) z := by
  obtain ⟨r, h1, h2, e2⟩ := h
  have w1 := (xlaw_w 1 hi hj hL (by decide) (by decide)).1
  have b1 : 0 ≤ xw32 (i + 1) ∧ xw32 (i + 1) < M 0 4000 := by rw [hlen]; exact (xlaw_w 1 hi hj hL (by decide) (by decide)).2
  have d1 := b1
  have h1 : fD_latest 1 (M 0 (xw32 (i + 1))) M = some r := by simp only [w1]; exact h1
  have h2 : fQ_latest 310 (M 0 (xw32 (i + 1))) M = some (r, m2) := by simp only [w1]; exact h2
  refine xEvG_n xml xfetch 6 (y := (296, 1092, [some (53, 0), some (2, 1), some (13, 310), some (0, i)], [(0, (M 0 (xw32 (i + 1)))), (2, 1)], M)) rfl ⟨b1, trivial⟩ ?_
  refine xEvG_call xml xfetch (q := (some (0, r), M)) rfl (hD_latest 1 (M 0 (xw32 (i + 1))) M _ h1) ?_
  show xEv (296, 1095, [some (53, 0), some (2, 1), some (13, 310), some (0, i)], [(0, r)], M) _
  refine xEvG_n xml xfetch 6 (y := (296, 1101, [some (53, 0), some (2, 1), some (13, 310), some (0, i)], [(0, (M 0 (xw32 (i + 1)))), (13, 310), (0, r)], M)) rfl ⟨b1, trivial⟩ ?_
  refine xEvG_call xml xfetch (q := (some (0, r), m2)) rfl (hQ_latest 310 (M 0 (xw32 (i + 1))) M _ h2) ?_
  show xEv (296, 1104, [some (53, 0), some (2, 1), some (13, 310), some (0, i)], [(0, r), (0, r)], m2) _
  refine xEvG_n xml xfetch 1 (y := (296, if r = r then 2210 else 1107, [some (53, 0), some (2, 1), some (13, 310), some (0, i)], [], m2)) rfl trivial ?_
  refine xEvG_br xml xfetch (fun _ => ?_) (fun c_ => absurd rfl c_)
  refine xEvG_n xml xfetch 2 (y := (296, 18, [some (53, 0), some (2, 1), some (13, 310), some (0, (xw32 (i + 6)))], [], m2)) rfl trivial ?_
  exact hk e2
def xlawC_29 (a : Int → Int) (M m2 : xM) : Prop := ∃ r : Int, fD_earliest 1 (a 1) M = some r ∧ fQ_earliest 310 (a 1) M = some (r, m2) ∧ m2 0 = M 0
theorem xlawS_29 {a : Int → Int} {M m2 : xM} (h : xlawC_29 a M m2) : m2 0 = M 0 := by
  obtain ⟨r, h1, h2, e2⟩ := h
  exact e2
theorem xlaw_29 {i L : Int} {M m2 : xM} {z : Option xV × xM} (hi : 0 ≤ i) (hj : i + 6 ≤ L) (hL : L ≤ 3072) (hlen : M 0 4000 = L) (h : xlawC_29 (fun j => M 0 (i + j)) M m2) (hk : m2 0 = M 0 → xEv (296, 18, [some (53, 0), some (2, 1), some (13, 310), some (0, xw32 (i + 6))], [], m2) z) : xEv (296, 1109, [some (53, 0), some (2, 1), some (13, 310), some (0, i)], [], M) z := by
  obtain ⟨r, h1, h2, e2⟩ := h
  have w1 := (xlaw_w 1 hi hj hL (by decide) (by decide)).1
  have b1 : 0 ≤ xw32 (i + 1) ∧ xw32 (i + 1) < M 0 4000 := by rw [hlen]; exact (xlaw_w 1 hi hj hL (by decide) (by decide)).2
  have d1 := b1
  have h1 : fD_earliest 1 (M 0 (xw32 (i + 1))) M = some r := by simp only [w1]; exact h1
  have h2 : fQ_earliest 310 (M 0 (xw32 (i + 1))) M = some (r, m2) := by simp only [w1]; exact h2
  refine xEvG_n xml xfetch 6 (y := (296, 1115, [some (53, 0), some (2, 1), some (13, 310), some (0, i)], [(0, (M 0 (xw32 (i + 1)))), (2, 1)], M)) rfl ⟨b1, trivial⟩ ?_
  refine xEvG_call xml xfetch (q := (some (0, r), M)) rfl (hD_earliest 1 (M 0 (xw32 (i + 1))) M _ h1) ?_
  show xEv (296, 1118, [some (53, 0), some (2, 1), some (13, 310), some (0, i)], [(0, r)], M) _
  refine xEvG_n xml xfetch 6 (y := (296, 1124, [some (53, 0), some (2, 1), some (13, 310), some (0, i)], [(0, (M 0 (xw32 (i + 1)))), (13, 310), (0, r)], M)) rfl ⟨b1, trivial⟩ ?_
  refine xEvG_call xml xfetch (q := (some (0, r), m2)) rfl (hQ_earliest 310 (M 0 (xw32 (i + 1))) M _ h2) ?_
  show xEv (296, 1127, [some (53, 0), some (2, 1), some (13, 310), some (0, i)], [(0, r), (0, r)], m2) _
  refine xEvG_n xml xfetch 1 (y := (296, if r = r then 2210 else 1130, [some (53, 0), some (2, 1), some (13, 310), some (0, i)], [], m2)) rfl trivial ?_
  refine xEvG_br xml xfetch (fun _ => ?_) (fun c_ => absurd rfl c_)
  refine xEvG_n xml xfetch 2 (y := (296, 18, [some (53, 0), some (2, 1), some (13, 310), some (0, (xw32 (i + 6)))], [], m2)) rfl trivial ?_
  exact hk e2
def xlawC_30 (a : Int → Int) (M m2 : xM) : Prop := ∃ r : Int, ∃ m1 : xM, fD_astray 1 M = some (r, m1) ∧ m1 0 = M 0 ∧ fQ_astray 310 m1 = some (r, m2) ∧ m2 0 = M 0
theorem xlawS_30 {a : Int → Int} {M m2 : xM} (h : xlawC_30 a M m2) : m2 0 = M 0 := by
  obtain ⟨r, m1, h1, e1, h2, e2⟩ := h
  exact e2
theorem xlaw_30 {i L : Int} {M m2 : xM} {z : Option xV × xM} (hi : 0 ≤ i) (hj : i + 6 ≤ L) (hL : L ≤ 3072) (hlen : M 0 4000 = L) (h : xlawC_30 (fun j => M 0 (i + j)) M m2) (hk : m2 0 = M 0 → xEv (296, 18, [some (53, 0), some (2, 1), some (13, 310), some (0, xw32 (i + 6))], [], m2) z) : xEv (296, 1132, [some (53, 0), some (2, 1), some (13, 310), some (0, i)], [], M) z := by
  obtain ⟨r, m1, h1, e1, h2, e2⟩ := h
  refine xEvG_n xml xfetch 1 (y := (296, 1133, [some (53, 0), some (2, 1), some (13, 310), some (0, i)], [(2, 1)], M)) rfl trivial ?_
  refine xEvG_call xml xfetch (q := (some (0, r), m1)) rfl (hD_astray 1 M _ h1) ?_
  show xEv (296, 1136, [some (53, 0), some (2, 1), some (13, 310), some (0, i)], [(0, r)], m1) _
  refine xEvG_n xml xfetch 1 (y := (296, 1137, [some (53, 0), some (2, 1), some (13, 310), some (0, i)], [(13, 310), (0, r)], m1)) rfl trivial ?_
  refine xEvG_call xml xfetch (q := (some (0, r), m2)) rfl (hQ_astray 310 m1 _ h2) ?_
  show xEv (296, 1140, [some (53, 0), some (2, 1), some (13, 310), some (0, i)], [(0, r), (0, r)], m2) _
  refine xEvG_n xml xfetch 1 (y := (296, if r = r then 2210 else 1143, [some (53, 0), some (2, 1), some (13, 310), some (0, i)], [], m2)) rfl trivial ?_
  refine xEvG_br xml xfetch (fun _ => ?_) (fun c_ => absurd rfl c_)
  refine xEvG_n xml xfetch 2 (y := (296, 18, [some (53, 0), some (2, 1), some (13, 310), some (0, (xw32 (i + 6)))], [], m2)) rfl trivial ?_
  exact hk e2
def xlawC_31 (a : Int → Int) (M m2 : xM) : Prop := ∃ r : Int, fD_flatter 1 (a 1) (a 2) M = some r ∧ fQ_flatter 310 (a 1) (a 2) M = some (r, m2) ∧ m2 0 = M 0
theorem xlawS_31 {a : Int → Int} {M m2 : xM} (h : xlawC_31 a M m2) : m2 0 = M 0 := by
  obtain ⟨r, h1, h2, e2⟩ := h
  exact e2
theorem xlaw_31 {i L : Int} {M m2 : xM} {z : Option xV × xM} (hi : 0 ≤ i) (hj : i + 6 ≤ L) (hL : L ≤ 3072) (hlen : M 0 4000 = L) (h : xlawC_31 (fun j => M 0 (i + j)) M m2) (hk : m2 0 = M 0 → xEv (296, 18, [some (53, 0), some (2, 1), some (13, 310), some (0, xw32 (i + 6))], [], m2) z) : xEv (296, 1145, [some (53, 0), some (2, 1), some (13, 310), some (0, i)], [], M) z := by
  obtain ⟨r, h1, h2, e2⟩ := h
  have w1 := (xlaw_w 1 hi hj hL (by decide) (by decide)).1
  have b1 : 0 ≤ xw32 (i + 1) ∧ xw32 (i + 1) < M 0 4000 := by rw [hlen]; exact (xlaw_w 1 hi hj hL (by decide) (by decide)).2
  have d1 := b1
  have w2 := (xlaw_w 2 hi hj hL (by decide) (by decide)).1
  have b2 : 0 ≤ xw32 (i + 2) ∧ xw32 (i + 2) < M 0 4000 := by rw [hlen]; exact (xlaw_w 2 hi hj hL (by decide) (by decide)).2
  have d2 := b2
  have h1 : fD_flatter 1 (M 0 (xw32 (i + 1))) (M 0 (xw32 (i + 2))) M = some r := by simp only [w1, w2]; exact h1
  have h2 : fQ_flatter 310 (M 0 (xw32 (i + 1))) (M 0 (xw32 (i + 2))) M = some (r, m2) := by simp only [w1, w2]; exact h2
  refine xEvG_n xml xfetch 11 (y := (296, 1156, [some (53, 0), some (2, 1), some (13, 310), some (0, i)], [(0, (M 0 (xw32 (i + 2)))), (0, (M 0 (xw32 (i + 1)))), (2, 1)], M)) rfl ⟨b1, b2, trivial⟩ ?_
  refine xEvG_call xml xfetch (q := (some (0, r), M)) rfl (hD_flatter 1 (M 0 (xw32 (i + 1))) (M 0 (xw32 (i + 2))) M _ h1) ?_
  show xEv (296, 1159, [some (53, 0), some (2, 1), some (13, 310), some (0, i)], [(0, r)], M) _
  refine xEvG_n xml xfetch 11 (y := (296, 1170, [some (53, 0), some (2, 1), some (13, 310), some (0, i)], [(0, (M 0 (xw32 (i + 2)))), (0, (M 0 (xw32 (i + 1)))), (13, 310), (0, r)], M)) rfl ⟨b1, b2, trivial⟩ ?_
  refine xEvG_call xml xfetch (q := (some (0, r), m2)) rfl (hQ_flatter 310 (M 0 (xw32 (i + 1))) (M 0 (xw32 (i + 2))) M _ h2) ?_
  show xEv (296, 1173, [some (53, 0), some (2, 1), some (13, 310), some (0, i)], [(0, r), (0, r)], m2) _
  refine xEvG_n xml xfetch 1 (y := (296, if r = r then 2210 else 1176, [some (53, 0), some (2, 1), some (13, 310), some (0, i)], [], m2)) rfl trivial ?_
  refine xEvG_br xml xfetch (fun _ => ?_) (fun c_ => absurd rfl c_)
  refine xEvG_n xml xfetch 2 (y := (296, 18, [some (53, 0), some (2, 1), some (13, 310), some (0, (xw32 (i + 6)))], [], m2)) rfl trivial ?_
  exact hk e2
def xlawC_32 (a : Int → Int) (M m2 : xM) : Prop := ∃ r : Int, fD_when 1 (a 1) M = some r ∧ fQ_when 310 (a 1) M = some (r, m2) ∧ m2 0 = M 0
theorem xlawS_32 {a : Int → Int} {M m2 : xM} (h : xlawC_32 a M m2) : m2 0 = M 0 := by
  obtain ⟨r, h1, h2, e2⟩ := h
  exact e2
theorem xlaw_32 {i L : Int} {M m2 : xM} {z : Option xV × xM} (hi : 0 ≤ i) (hj : i + 6 ≤ L) (hL : L ≤ 3072) (hlen : M 0 4000 = L) (h : xlawC_32 (fun j => M 0 (i + j)) M m2) (hk : m2 0 = M 0 → xEv (296, 18, [some (53, 0), some (2, 1), some (13, 310), some (0, xw32 (i + 6))], [], m2) z) : xEv (296, 1178, [some (53, 0), some (2, 1), some (13, 310), some (0, i)], [], M) z := by
  obtain ⟨r, h1, h2, e2⟩ := h
  have w1 := (xlaw_w 1 hi hj hL (by decide) (by decide)).1
  have b1 : 0 ≤ xw32 (i + 1) ∧ xw32 (i + 1) < M 0 4000 := by rw [hlen]; exact (xlaw_w 1 hi hj hL (by decide) (by decide)).2
  have d1 := b1
  have h1 : fD_when 1 (M 0 (xw32 (i + 1))) M = some r := by simp only [w1]; exact h1
  have h2 : fQ_when 310 (M 0 (xw32 (i + 1))) M = some (r, m2) := by simp only [w1]; exact h2
  refine xEvG_n xml xfetch 6 (y := (296, 1184, [some (53, 0), some (2, 1), some (13, 310), some (0, i)], [(0, (M 0 (xw32 (i + 1)))), (2, 1)], M)) rfl ⟨b1, trivial⟩ ?_
  refine xEvG_call xml xfetch (q := (some (0, r), M)) rfl (hD_when 1 (M 0 (xw32 (i + 1))) M _ h1) ?_
  show xEv (296, 1187, [some (53, 0), some (2, 1), some (13, 310), some (0, i)], [(0, r)], M) _
  refine xEvG_n xml xfetch 6 (y := (296, 1193, [some (53, 0), some (2, 1), some (13, 310), some (0, i)], [(0, (M 0 (xw32 (i + 1)))), (13, 310), (0, r)], M)) rfl ⟨b1, trivial⟩ ?_
  refine xEvG_call xml xfetch (q := (some (0, r), m2)) rfl (hQ_when 310 (M 0 (xw32 (i + 1))) M _ h2) ?_
  show xEv (296, 1196, [some (53, 0), some (2, 1), some (13, 310), some (0, i)], [(0, r), (0, r)], m2) _
  refine xEvG_n xml xfetch 1 (y := (296, if r = r then 2210 else 1199, [some (53, 0), some (2, 1), some (13, 310), some (0, i)], [], m2)) rfl trivial ?_
  refine xEvG_br xml xfetch (fun _ => ?_) (fun c_ => absurd rfl c_)
  refine xEvG_n xml xfetch 2 (y := (296, 18, [some (53, 0), some (2, 1), some (13, 310), some (0, (xw32 (i + 6)))], [], m2)) rfl trivial ?_
  exact hk e2
def xlawC_33 (a : Int → Int) (M m2 : xM) : Prop := ∃ r : Int, ∃ m1 : xM, fD_corridor 1 (a 1) (a 2) M = some (r, m1) ∧ m1 0 = M 0 ∧ fQ_corridor 310 (a 1) (a 2) m1 = some (r, m2) ∧ m2 0 = M 0
theorem xlawS_33 {a : Int → Int} {M m2 : xM} (h : xlawC_33 a M m2) : m2 0 = M 0 := by
  obtain ⟨r, m1, h1, e1, h2, e2⟩ := h
  exact e2
theorem xlaw_33 {i L : Int} {M m2 : xM} {z : Option xV × xM} (hi : 0 ≤ i) (hj : i + 6 ≤ L) (hL : L ≤ 3072) (hlen : M 0 4000 = L) (h : xlawC_33 (fun j => M 0 (i + j)) M m2) (hk : m2 0 = M 0 → xEv (296, 18, [some (53, 0), some (2, 1), some (13, 310), some (0, xw32 (i + 6))], [], m2) z) : xEv (296, 1201, [some (53, 0), some (2, 1), some (13, 310), some (0, i)], [], M) z := by
  obtain ⟨r, m1, h1, e1, h2, e2⟩ := h
  have w1 := (xlaw_w 1 hi hj hL (by decide) (by decide)).1
  have b1 : 0 ≤ xw32 (i + 1) ∧ xw32 (i + 1) < M 0 4000 := by rw [hlen]; exact (xlaw_w 1 hi hj hL (by decide) (by decide)).2
  have d1 : 0 ≤ xw32 (i + 1) ∧ xw32 (i + 1) < m1 0 4000 := by rw [e1]; exact b1
  have w2 := (xlaw_w 2 hi hj hL (by decide) (by decide)).1
  have b2 : 0 ≤ xw32 (i + 2) ∧ xw32 (i + 2) < M 0 4000 := by rw [hlen]; exact (xlaw_w 2 hi hj hL (by decide) (by decide)).2
  have d2 : 0 ≤ xw32 (i + 2) ∧ xw32 (i + 2) < m1 0 4000 := by rw [e1]; exact b2
  have h1 : fD_corridor 1 (M 0 (xw32 (i + 1))) (M 0 (xw32 (i + 2))) M = some (r, m1) := by simp only [w1, w2]; exact h1
  have h2 : fQ_corridor 310 (m1 0 (xw32 (i + 1))) (m1 0 (xw32 (i + 2))) m1 = some (r, m2) := by simp only [e1, w1, w2]; exact h2
  refine xEvG_n xml xfetch 11 (y := (296, 1212, [some (53, 0), some (2, 1), some (13, 310), some (0, i)], [(0, (M 0 (xw32 (i + 2)))), (0, (M 0 (xw32 (i + 1)))), (2, 1)], M)) rfl ⟨b1, b2, trivial⟩ ?_
  refine xEvG_call xml xfetch (q := (some (0, r), m1)) rfl (hD_corridor 1 (M 0 (xw32 (i + 1))) (M 0 (xw32 (i + 2))) M _ h1) ?_
  show xEv (296, 1215, [some (53, 0), some (2, 1), some (13, 310), some (0, i)], [(0, r)], m1) _
  refine xEvG_n xml xfetch 11 (y := (296, 1226, [some (53, 0), some (2, 1), some (13, 310), some (0, i)], [(0, (m1 0 (xw32 (i + 2)))), (0, (m1 0 (xw32 (i + 1)))), (13, 310), (0, r)], m1)) rfl ⟨d1, d2, trivial⟩ ?_
  refine xEvG_call xml xfetch (q := (some (0, r), m2)) rfl (hQ_corridor 310 (m1 0 (xw32 (i + 1))) (m1 0 (xw32 (i + 2))) m1 _ h2) ?_
  show xEv (296, 1229, [some (53, 0), some (2, 1), some (13, 310), some (0, i)], [(0, r), (0, r)], m2) _
  refine xEvG_n xml xfetch 1 (y := (296, if r = r then 2210 else 1232, [some (53, 0), some (2, 1), some (13, 310), some (0, i)], [], m2)) rfl trivial ?_
  refine xEvG_br xml xfetch (fun _ => ?_) (fun c_ => absurd rfl c_)
  refine xEvG_n xml xfetch 2 (y := (296, 18, [some (53, 0), some (2, 1), some (13, 310), some (0, (xw32 (i + 6)))], [], m2)) rfl trivial ?_
  exact hk e2
def xlawC_34 (a : Int → Int) (M m2 : xM) : Prop := ∃ r : Int, ∃ m1 : xM, fD_friends 1 (a 1) (a 2) M = some (r, m1) ∧ m1 0 = M 0 ∧ fQ_friends 310 (a 1) (a 2) m1 = some (r, m2) ∧ m2 0 = M 0
theorem xlawS_34 {a : Int → Int} {M m2 : xM} (h : xlawC_34 a M m2) : m2 0 = M 0 := by
  obtain ⟨r, m1, h1, e1, h2, e2⟩ := h
  exact e2
theorem xlaw_34 {i L : Int} {M m2 : xM} {z : Option xV × xM} (hi : 0 ≤ i) (hj : i + 6 ≤ L) (hL : L ≤ 3072) (hlen : M 0 4000 = L) (h : xlawC_34 (fun j => M 0 (i + j)) M m2) (hk : m2 0 = M 0 → xEv (296, 18, [some (53, 0), some (2, 1), some (13, 310), some (0, xw32 (i + 6))], [], m2) z) : xEv (296, 1234, [some (53, 0), some (2, 1), some (13, 310), some (0, i)], [], M) z := by
  obtain ⟨r, m1, h1, e1, h2, e2⟩ := h
  have w1 := (xlaw_w 1 hi hj hL (by decide) (by decide)).1
  have b1 : 0 ≤ xw32 (i + 1) ∧ xw32 (i + 1) < M 0 4000 := by rw [hlen]; exact (xlaw_w 1 hi hj hL (by decide) (by decide)).2
  have d1 : 0 ≤ xw32 (i + 1) ∧ xw32 (i + 1) < m1 0 4000 := by rw [e1]; exact b1
  have w2 := (xlaw_w 2 hi hj hL (by decide) (by decide)).1
  have b2 : 0 ≤ xw32 (i + 2) ∧ xw32 (i + 2) < M 0 4000 := by rw [hlen]; exact (xlaw_w 2 hi hj hL (by decide) (by decide)).2
  have d2 : 0 ≤ xw32 (i + 2) ∧ xw32 (i + 2) < m1 0 4000 := by rw [e1]; exact b2
  have h1 : fD_friends 1 (M 0 (xw32 (i + 1))) (M 0 (xw32 (i + 2))) M = some (r, m1) := by simp only [w1, w2]; exact h1
  have h2 : fQ_friends 310 (m1 0 (xw32 (i + 1))) (m1 0 (xw32 (i + 2))) m1 = some (r, m2) := by simp only [e1, w1, w2]; exact h2
  refine xEvG_n xml xfetch 11 (y := (296, 1245, [some (53, 0), some (2, 1), some (13, 310), some (0, i)], [(0, (M 0 (xw32 (i + 2)))), (0, (M 0 (xw32 (i + 1)))), (2, 1)], M)) rfl ⟨b1, b2, trivial⟩ ?_
  refine xEvG_call xml xfetch (q := (some (0, r), m1)) rfl (hD_friends 1 (M 0 (xw32 (i + 1))) (M 0 (xw32 (i + 2))) M _ h1) ?_
  show xEv (296, 1248, [some (53, 0), some (2, 1), some (13, 310), some (0, i)], [(0, r)], m1) _
  refine xEvG_n xml xfetch 11 (y := (296, 1259, [some (53, 0), some (2, 1), some (13, 310), some (0, i)], [(0, (m1 0 (xw32 (i + 2)))), (0, (m1 0 (xw32 (i + 1)))), (13, 310), (0, r)], m1)) rfl ⟨d1, d2, trivial⟩ ?_
  refine xEvG_call xml xfetch (q := (some (0, r), m2)) rfl (hQ_friends 310 (m1 0 (xw32 (i + 1))) (m1 0 (xw32 (i + 2))) m1 _ h2) ?_
  show xEv (296, 1262, [some (53, 0), some (2, 1), some (13, 310), some (0, i)], [(0, r), (0, r)], m2) _
  refine xEvG_n xml xfetch 1 (y := (296, if r = r then 2210 else 1265, [some (53, 0), some (2, 1), some (13, 310), some (0, i)], [], m2)) rfl trivial ?_
  refine xEvG_br xml xfetch (fun _ => ?_) (fun c_ => absurd rfl c_)
  refine xEvG_n xml xfetch 2 (y := (296, 18, [some (53, 0), some (2, 1), some (13, 310), some (0, (xw32 (i + 6)))], [], m2)) rfl trivial ?_
  exact hk e2
def xlawC_35 (a : Int → Int) (M m2 : xM) : Prop := ∃ r : Int, ∃ m1 : xM, fD_mends 1 (a 1) (a 2) M = some (r, m1) ∧ m1 0 = M 0 ∧ fQ_mends 310 (a 1) (a 2) m1 = some (r, m2) ∧ m2 0 = M 0
theorem xlawS_35 {a : Int → Int} {M m2 : xM} (h : xlawC_35 a M m2) : m2 0 = M 0 := by
  obtain ⟨r, m1, h1, e1, h2, e2⟩ := h
  exact e2
theorem xlaw_35 {i L : Int} {M m2 : xM} {z : Option xV × xM} (hi : 0 ≤ i) (hj : i + 6 ≤ L) (hL : L ≤ 3072) (hlen : M 0 4000 = L) (h : xlawC_35 (fun j => M 0 (i + j)) M m2) (hk : m2 0 = M 0 → xEv (296, 18, [some (53, 0), some (2, 1), some (13, 310), some (0, xw32 (i + 6))], [], m2) z) : xEv (296, 1267, [some (53, 0), some (2, 1), some (13, 310), some (0, i)], [], M) z := by
  obtain ⟨r, m1, h1, e1, h2, e2⟩ := h
  have w1 := (xlaw_w 1 hi hj hL (by decide) (by decide)).1
  have b1 : 0 ≤ xw32 (i + 1) ∧ xw32 (i + 1) < M 0 4000 := by rw [hlen]; exact (xlaw_w 1 hi hj hL (by decide) (by decide)).2
  have d1 : 0 ≤ xw32 (i + 1) ∧ xw32 (i + 1) < m1 0 4000 := by rw [e1]; exact b1
  have w2 := (xlaw_w 2 hi hj hL (by decide) (by decide)).1
  have b2 : 0 ≤ xw32 (i + 2) ∧ xw32 (i + 2) < M 0 4000 := by rw [hlen]; exact (xlaw_w 2 hi hj hL (by decide) (by decide)).2
  have d2 : 0 ≤ xw32 (i + 2) ∧ xw32 (i + 2) < m1 0 4000 := by rw [e1]; exact b2
  have h1 : fD_mends 1 (M 0 (xw32 (i + 1))) (M 0 (xw32 (i + 2))) M = some (r, m1) := by simp only [w1, w2]; exact h1
  have h2 : fQ_mends 310 (m1 0 (xw32 (i + 1))) (m1 0 (xw32 (i + 2))) m1 = some (r, m2) := by simp only [e1, w1, w2]; exact h2
  refine xEvG_n xml xfetch 11 (y := (296, 1278, [some (53, 0), some (2, 1), some (13, 310), some (0, i)], [(0, (M 0 (xw32 (i + 2)))), (0, (M 0 (xw32 (i + 1)))), (2, 1)], M)) rfl ⟨b1, b2, trivial⟩ ?_
  refine xEvG_call xml xfetch (q := (some (0, r), m1)) rfl (hD_mends 1 (M 0 (xw32 (i + 1))) (M 0 (xw32 (i + 2))) M _ h1) ?_
  show xEv (296, 1281, [some (53, 0), some (2, 1), some (13, 310), some (0, i)], [(0, r)], m1) _
  refine xEvG_n xml xfetch 11 (y := (296, 1292, [some (53, 0), some (2, 1), some (13, 310), some (0, i)], [(0, (m1 0 (xw32 (i + 2)))), (0, (m1 0 (xw32 (i + 1)))), (13, 310), (0, r)], m1)) rfl ⟨d1, d2, trivial⟩ ?_
  refine xEvG_call xml xfetch (q := (some (0, r), m2)) rfl (hQ_mends 310 (m1 0 (xw32 (i + 1))) (m1 0 (xw32 (i + 2))) m1 _ h2) ?_
  show xEv (296, 1295, [some (53, 0), some (2, 1), some (13, 310), some (0, i)], [(0, r), (0, r)], m2) _
  refine xEvG_n xml xfetch 1 (y := (296, if r = r then 2210 else 1298, [some (53, 0), some (2, 1), some (13, 310), some (0, i)], [], m2)) rfl trivial ?_
  refine xEvG_br xml xfetch (fun _ => ?_) (fun c_ => absurd rfl c_)
  refine xEvG_n xml xfetch 2 (y := (296, 18, [some (53, 0), some (2, 1), some (13, 310), some (0, (xw32 (i + 6)))], [], m2)) rfl trivial ?_
  exact hk e2
def xlawC_36 (a : Int → Int) (M m2 : xM) : Prop := ∃ r : Int, ∃ m1 : xM, fD_harm 1 (a 1) M = some (r, m1) ∧ m1 0 = M 0 ∧ fQ_harm 310 (a 1) m1 = some (r, m2) ∧ m2 0 = M 0
theorem xlawS_36 {a : Int → Int} {M m2 : xM} (h : xlawC_36 a M m2) : m2 0 = M 0 := by
  obtain ⟨r, m1, h1, e1, h2, e2⟩ := h
  exact e2
theorem xlaw_36 {i L : Int} {M m2 : xM} {z : Option xV × xM} (hi : 0 ≤ i) (hj : i + 6 ≤ L) (hL : L ≤ 3072) (hlen : M 0 4000 = L) (h : xlawC_36 (fun j => M 0 (i + j)) M m2) (hk : m2 0 = M 0 → xEv (296, 18, [some (53, 0), some (2, 1), some (13, 310), some (0, xw32 (i + 6))], [], m2) z) : xEv (296, 1300, [some (53, 0), some (2, 1), some (13, 310), some (0, i)], [], M) z := by
  obtain ⟨r, m1, h1, e1, h2, e2⟩ := h
  have w1 := (xlaw_w 1 hi hj hL (by decide) (by decide)).1
  have b1 : 0 ≤ xw32 (i + 1) ∧ xw32 (i + 1) < M 0 4000 := by rw [hlen]; exact (xlaw_w 1 hi hj hL (by decide) (by decide)).2
  have d1 : 0 ≤ xw32 (i + 1) ∧ xw32 (i + 1) < m1 0 4000 := by rw [e1]; exact b1
  have h1 : fD_harm 1 (M 0 (xw32 (i + 1))) M = some (r, m1) := by simp only [w1]; exact h1
  have h2 : fQ_harm 310 (m1 0 (xw32 (i + 1))) m1 = some (r, m2) := by simp only [e1, w1]; exact h2
  refine xEvG_n xml xfetch 6 (y := (296, 1306, [some (53, 0), some (2, 1), some (13, 310), some (0, i)], [(0, (M 0 (xw32 (i + 1)))), (2, 1)], M)) rfl ⟨b1, trivial⟩ ?_
  refine xEvG_call xml xfetch (q := (some (0, r), m1)) rfl (hD_harm 1 (M 0 (xw32 (i + 1))) M _ h1) ?_
  show xEv (296, 1309, [some (53, 0), some (2, 1), some (13, 310), some (0, i)], [(0, r)], m1) _
  refine xEvG_n xml xfetch 6 (y := (296, 1315, [some (53, 0), some (2, 1), some (13, 310), some (0, i)], [(0, (m1 0 (xw32 (i + 1)))), (13, 310), (0, r)], m1)) rfl ⟨d1, trivial⟩ ?_
  refine xEvG_call xml xfetch (q := (some (0, r), m2)) rfl (hQ_harm 310 (m1 0 (xw32 (i + 1))) m1 _ h2) ?_
  show xEv (296, 1318, [some (53, 0), some (2, 1), some (13, 310), some (0, i)], [(0, r), (0, r)], m2) _
  refine xEvG_n xml xfetch 1 (y := (296, if r = r then 2210 else 1321, [some (53, 0), some (2, 1), some (13, 310), some (0, i)], [], m2)) rfl trivial ?_
  refine xEvG_br xml xfetch (fun _ => ?_) (fun c_ => absurd rfl c_)
  refine xEvG_n xml xfetch 2 (y := (296, 18, [some (53, 0), some (2, 1), some (13, 310), some (0, (xw32 (i + 6)))], [], m2)) rfl trivial ?_
  exact hk e2
def xlawC_37 (a : Int → Int) (M m2 : xM) : Prop := ∃ r : Int, ∃ m1 : xM, fD_courted 1 M = some (r, m1) ∧ m1 0 = M 0 ∧ fQ_courted 310 m1 = some (r, m2) ∧ m2 0 = M 0
theorem xlawS_37 {a : Int → Int} {M m2 : xM} (h : xlawC_37 a M m2) : m2 0 = M 0 := by
  obtain ⟨r, m1, h1, e1, h2, e2⟩ := h
  exact e2
theorem xlaw_37 {i L : Int} {M m2 : xM} {z : Option xV × xM} (hi : 0 ≤ i) (hj : i + 6 ≤ L) (hL : L ≤ 3072) (hlen : M 0 4000 = L) (h : xlawC_37 (fun j => M 0 (i + j)) M m2) (hk : m2 0 = M 0 → xEv (296, 18, [some (53, 0), some (2, 1), some (13, 310), some (0, xw32 (i + 6))], [], m2) z) : xEv (296, 1323, [some (53, 0), some (2, 1), some (13, 310), some (0, i)], [], M) z := by
  obtain ⟨r, m1, h1, e1, h2, e2⟩ := h
  refine xEvG_n xml xfetch 1 (y := (296, 1324, [some (53, 0), some (2, 1), some (13, 310), some (0, i)], [(2, 1)], M)) rfl trivial ?_
  refine xEvG_call xml xfetch (q := (some (0, r), m1)) rfl (hD_courted 1 M _ h1) ?_
  show xEv (296, 1327, [some (53, 0), some (2, 1), some (13, 310), some (0, i)], [(0, r)], m1) _
  refine xEvG_n xml xfetch 1 (y := (296, 1328, [some (53, 0), some (2, 1), some (13, 310), some (0, i)], [(13, 310), (0, r)], m1)) rfl trivial ?_
  refine xEvG_call xml xfetch (q := (some (0, r), m2)) rfl (hQ_courted 310 m1 _ h2) ?_
  show xEv (296, 1331, [some (53, 0), some (2, 1), some (13, 310), some (0, i)], [(0, r), (0, r)], m2) _
  refine xEvG_n xml xfetch 1 (y := (296, if r = r then 2210 else 1334, [some (53, 0), some (2, 1), some (13, 310), some (0, i)], [], m2)) rfl trivial ?_
  refine xEvG_br xml xfetch (fun _ => ?_) (fun c_ => absurd rfl c_)
  refine xEvG_n xml xfetch 2 (y := (296, 18, [some (53, 0), some (2, 1), some (13, 310), some (0, (xw32 (i + 6)))], [], m2)) rfl trivial ?_
  exact hk e2
def xlawC_38 (a : Int → Int) (M m2 : xM) : Prop := ∃ r : Int, ∃ m1 : xM, fD_loyalty 1 (a 1) M = some (r, m1) ∧ m1 0 = M 0 ∧ fQ_loyalty 310 (a 1) m1 = some (r, m2) ∧ m2 0 = M 0
theorem xlawS_38 {a : Int → Int} {M m2 : xM} (h : xlawC_38 a M m2) : m2 0 = M 0 := by
  obtain ⟨r, m1, h1, e1, h2, e2⟩ := h
  exact e2
theorem xlaw_38 {i L : Int} {M m2 : xM} {z : Option xV × xM} (hi : 0 ≤ i) (hj : i + 6 ≤ L) (hL : L ≤ 3072) (hlen : M 0 4000 = L) (h : xlawC_38 (fun j => M 0 (i + j)) M m2) (hk : m2 0 = M 0 → xEv (296, 18, [some (53, 0), some (2, 1), some (13, 310), some (0, xw32 (i + 6))], [], m2) z) : xEv (296, 1336, [some (53, 0), some (2, 1), some (13, 310), some (0, i)], [], M) z := by
  obtain ⟨r, m1, h1, e1, h2, e2⟩ := h
  have w1 := (xlaw_w 1 hi hj hL (by decide) (by decide)).1
  have b1 : 0 ≤ xw32 (i + 1) ∧ xw32 (i + 1) < M 0 4000 := by rw [hlen]; exact (xlaw_w 1 hi hj hL (by decide) (by decide)).2
  have d1 : 0 ≤ xw32 (i + 1) ∧ xw32 (i + 1) < m1 0 4000 := by rw [e1]; exact b1
  have h1 : fD_loyalty 1 (M 0 (xw32 (i + 1))) M = some (r, m1) := by simp only [w1]; exact h1
  have h2 : fQ_loyalty 310 (m1 0 (xw32 (i + 1))) m1 = some (r, m2) := by simp only [e1, w1]; exact h2
  refine xEvG_n xml xfetch 6 (y := (296, 1342, [some (53, 0), some (2, 1), some (13, 310), some (0, i)], [(0, (M 0 (xw32 (i + 1)))), (2, 1)], M)) rfl ⟨b1, trivial⟩ ?_
  refine xEvG_call xml xfetch (q := (some (0, r), m1)) rfl (hD_loyalty 1 (M 0 (xw32 (i + 1))) M _ h1) ?_
  show xEv (296, 1345, [some (53, 0), some (2, 1), some (13, 310), some (0, i)], [(0, r)], m1) _
  refine xEvG_n xml xfetch 6 (y := (296, 1351, [some (53, 0), some (2, 1), some (13, 310), some (0, i)], [(0, (m1 0 (xw32 (i + 1)))), (13, 310), (0, r)], m1)) rfl ⟨d1, trivial⟩ ?_
  refine xEvG_call xml xfetch (q := (some (0, r), m2)) rfl (hQ_loyalty 310 (m1 0 (xw32 (i + 1))) m1 _ h2) ?_
  show xEv (296, 1354, [some (53, 0), some (2, 1), some (13, 310), some (0, i)], [(0, r), (0, r)], m2) _
  refine xEvG_n xml xfetch 1 (y := (296, if r = r then 2210 else 1357, [some (53, 0), some (2, 1), some (13, 310), some (0, i)], [], m2)) rfl trivial ?_
  refine xEvG_br xml xfetch (fun _ => ?_) (fun c_ => absurd rfl c_)
  refine xEvG_n xml xfetch 2 (y := (296, 18, [some (53, 0), some (2, 1), some (13, 310), some (0, (xw32 (i + 6)))], [], m2)) rfl trivial ?_
  exact hk e2
def xlawC_39 (a : Int → Int) (M m2 : xM) : Prop := ∃ r : Int, ∃ m1 : xM, fD_soup 1 (a 1) (a 2) (a 3) (a 4) M = some (r, m1) ∧ m1 0 = M 0 ∧ fQ_soup 310 (a 1) (a 2) (a 3) (a 4) m1 = some (r, m2) ∧ m2 0 = M 0
theorem xlawS_39 {a : Int → Int} {M m2 : xM} (h : xlawC_39 a M m2) : m2 0 = M 0 := by
  obtain ⟨r, m1, h1, e1, h2, e2⟩ := h
  exact e2
theorem xlaw_39 {i L : Int} {M m2 : xM} {z : Option xV × xM} (hi : 0 ≤ i) (hj : i + 6 ≤ L) (hL : L ≤ 3072) (hlen : M 0 4000 = L) (h : xlawC_39 (fun j => M 0 (i + j)) M m2) (hk : m2 0 = M 0 → xEv (296, 18, [some (53, 0), some (2, 1), some (13, 310), some (0, xw32 (i + 6))], [], m2) z) : xEv (296, 1359, [some (53, 0), some (2, 1), some (13, 310), some (0, i)], [], M) z := by
  obtain ⟨r, m1, h1, e1, h2, e2⟩ := h
  have w1 := (xlaw_w 1 hi hj hL (by decide) (by decide)).1
  have b1 : 0 ≤ xw32 (i + 1) ∧ xw32 (i + 1) < M 0 4000 := by rw [hlen]; exact (xlaw_w 1 hi hj hL (by decide) (by decide)).2
  have d1 : 0 ≤ xw32 (i + 1) ∧ xw32 (i + 1) < m1 0 4000 := by rw [e1]; exact b1
  have w2 := (xlaw_w 2 hi hj hL (by decide) (by decide)).1
  have b2 : 0 ≤ xw32 (i + 2) ∧ xw32 (i + 2) < M 0 4000 := by rw [hlen]; exact (xlaw_w 2 hi hj hL (by decide) (by decide)).2
  have d2 : 0 ≤ xw32 (i + 2) ∧ xw32 (i + 2) < m1 0 4000 := by rw [e1]; exact b2
  have w3 := (xlaw_w 3 hi hj hL (by decide) (by decide)).1
  have b3 : 0 ≤ xw32 (i + 3) ∧ xw32 (i + 3) < M 0 4000 := by rw [hlen]; exact (xlaw_w 3 hi hj hL (by decide) (by decide)).2
  have d3 : 0 ≤ xw32 (i + 3) ∧ xw32 (i + 3) < m1 0 4000 := by rw [e1]; exact b3
  have w4 := (xlaw_w 4 hi hj hL (by decide) (by decide)).1
  have b4 : 0 ≤ xw32 (i + 4) ∧ xw32 (i + 4) < M 0 4000 := by rw [hlen]; exact (xlaw_w 4 hi hj hL (by decide) (by decide)).2
  have d4 : 0 ≤ xw32 (i + 4) ∧ xw32 (i + 4) < m1 0 4000 := by rw [e1]; exact b4
  have h1 : fD_soup 1 (M 0 (xw32 (i + 1))) (M 0 (xw32 (i + 2))) (M 0 (xw32 (i + 3))) (M 0 (xw32 (i + 4))) M = some (r, m1) := by simp only [w1, w2, w3, w4]; exact h1
  have h2 : fQ_soup 310 (m1 0 (xw32 (i + 1))) (m1 0 (xw32 (i + 2))) (m1 0 (xw32 (i + 3))) (m1 0 (xw32 (i + 4))) m1 = some (r, m2) := by simp only [e1, w1, w2, w3, w4]; exact h2
  refine xEvG_n xml xfetch 21 (y := (296, 1380, [some (53, 0), some (2, 1), some (13, 310), some (0, i)], [(0, (M 0 (xw32 (i + 4)))), (0, (M 0 (xw32 (i + 3)))), (0, (M 0 (xw32 (i + 2)))), (0, (M 0 (xw32 (i + 1)))), (2, 1)], M)) rfl ⟨b1, b2, b3, b4, trivial⟩ ?_
  refine xEvG_call xml xfetch (q := (some (0, r), m1)) rfl (hD_soup 1 (M 0 (xw32 (i + 1))) (M 0 (xw32 (i + 2))) (M 0 (xw32 (i + 3))) (M 0 (xw32 (i + 4))) M _ h1) ?_
  show xEv (296, 1383, [some (53, 0), some (2, 1), some (13, 310), some (0, i)], [(0, r)], m1) _
  refine xEvG_n xml xfetch 21 (y := (296, 1404, [some (53, 0), some (2, 1), some (13, 310), some (0, i)], [(0, (m1 0 (xw32 (i + 4)))), (0, (m1 0 (xw32 (i + 3)))), (0, (m1 0 (xw32 (i + 2)))), (0, (m1 0 (xw32 (i + 1)))), (13, 310), (0, r)], m1)) rfl ⟨d1, d2, d3, d4, trivial⟩ ?_
  refine xEvG_call xml xfetch (q := (some (0, r), m2)) rfl (hQ_soup 310 (m1 0 (xw32 (i + 1))) (m1 0 (xw32 (i + 2))) (m1 0 (xw32 (i + 3))) (m1 0 (xw32 (i + 4))) m1 _ h2) ?_
  show xEv (296, 1407, [some (53, 0), some (2, 1), some (13, 310), some (0, i)], [(0, r), (0, r)], m2) _
  refine xEvG_n xml xfetch 1 (y := (296, if r = r then 2210 else 1410, [some (53, 0), some (2, 1), some (13, 310), some (0, i)], [], m2)) rfl trivial ?_
  refine xEvG_br xml xfetch (fun _ => ?_) (fun c_ => absurd rfl c_)
  refine xEvG_n xml xfetch 2 (y := (296, 18, [some (53, 0), some (2, 1), some (13, 310), some (0, (xw32 (i + 6)))], [], m2)) rfl trivial ?_
  exact hk e2
def xlawC_40 (a : Int → Int) (M m2 : xM) : Prop := ∃ r : Int, ∃ m1 : xM, fD_gift 1 (a 1) M = some (r, m1) ∧ m1 0 = M 0 ∧ fQ_gift 310 (a 1) m1 = some (r, m2) ∧ m2 0 = M 0
theorem xlawS_40 {a : Int → Int} {M m2 : xM} (h : xlawC_40 a M m2) : m2 0 = M 0 := by
  obtain ⟨r, m1, h1, e1, h2, e2⟩ := h
  exact e2
theorem xlaw_40 {i L : Int} {M m2 : xM} {z : Option xV × xM} (hi : 0 ≤ i) (hj : i + 6 ≤ L) (hL : L ≤ 3072) (hlen : M 0 4000 = L) (h : xlawC_40 (fun j => M 0 (i + j)) M m2) (hk : m2 0 = M 0 → xEv (296, 18, [some (53, 0), some (2, 1), some (13, 310), some (0, xw32 (i + 6))], [], m2) z) : xEv (296, 1412, [some (53, 0), some (2, 1), some (13, 310), some (0, i)], [], M) z := by
  obtain ⟨r, m1, h1, e1, h2, e2⟩ := h
  have w1 := (xlaw_w 1 hi hj hL (by decide) (by decide)).1
  have b1 : 0 ≤ xw32 (i + 1) ∧ xw32 (i + 1) < M 0 4000 := by rw [hlen]; exact (xlaw_w 1 hi hj hL (by decide) (by decide)).2
  have d1 : 0 ≤ xw32 (i + 1) ∧ xw32 (i + 1) < m1 0 4000 := by rw [e1]; exact b1
  have h1 : fD_gift 1 (M 0 (xw32 (i + 1))) M = some (r, m1) := by simp only [w1]; exact h1
  have h2 : fQ_gift 310 (m1 0 (xw32 (i + 1))) m1 = some (r, m2) := by simp only [e1, w1]; exact h2
  refine xEvG_n xml xfetch 6 (y := (296, 1418, [some (53, 0), some (2, 1), some (13, 310), some (0, i)], [(0, (M 0 (xw32 (i + 1)))), (2, 1)], M)) rfl ⟨b1, trivial⟩ ?_
  refine xEvG_call xml xfetch (q := (some (0, r), m1)) rfl (hD_gift 1 (M 0 (xw32 (i + 1))) M _ h1) ?_
  show xEv (296, 1421, [some (53, 0), some (2, 1), some (13, 310), some (0, i)], [(0, r)], m1) _
  refine xEvG_n xml xfetch 6 (y := (296, 1427, [some (53, 0), some (2, 1), some (13, 310), some (0, i)], [(0, (m1 0 (xw32 (i + 1)))), (13, 310), (0, r)], m1)) rfl ⟨d1, trivial⟩ ?_
  refine xEvG_call xml xfetch (q := (some (0, r), m2)) rfl (hQ_gift 310 (m1 0 (xw32 (i + 1))) m1 _ h2) ?_
  show xEv (296, 1430, [some (53, 0), some (2, 1), some (13, 310), some (0, i)], [(0, r), (0, r)], m2) _
  refine xEvG_n xml xfetch 1 (y := (296, if r = r then 2210 else 1433, [some (53, 0), some (2, 1), some (13, 310), some (0, i)], [], m2)) rfl trivial ?_
  refine xEvG_br xml xfetch (fun _ => ?_) (fun c_ => absurd rfl c_)
  refine xEvG_n xml xfetch 2 (y := (296, 18, [some (53, 0), some (2, 1), some (13, 310), some (0, (xw32 (i + 6)))], [], m2)) rfl trivial ?_
  exact hk e2
def xlawC_41 (a : Int → Int) (M m2 : xM) : Prop := ∃ r : Int, ∃ m1 : xM, fD_other 1 (a 1) M = some (r, m1) ∧ m1 0 = M 0 ∧ fQ_other 310 (a 1) m1 = some (r, m2) ∧ m2 0 = M 0
theorem xlawS_41 {a : Int → Int} {M m2 : xM} (h : xlawC_41 a M m2) : m2 0 = M 0 := by
  obtain ⟨r, m1, h1, e1, h2, e2⟩ := h
  exact e2
theorem xlaw_41 {i L : Int} {M m2 : xM} {z : Option xV × xM} (hi : 0 ≤ i) (hj : i + 6 ≤ L) (hL : L ≤ 3072) (hlen : M 0 4000 = L) (h : xlawC_41 (fun j => M 0 (i + j)) M m2) (hk : m2 0 = M 0 → xEv (296, 18, [some (53, 0), some (2, 1), some (13, 310), some (0, xw32 (i + 6))], [], m2) z) : xEv (296, 1435, [some (53, 0), some (2, 1), some (13, 310), some (0, i)], [], M) z := by
  obtain ⟨r, m1, h1, e1, h2, e2⟩ := h
  have w1 := (xlaw_w 1 hi hj hL (by decide) (by decide)).1
  have b1 : 0 ≤ xw32 (i + 1) ∧ xw32 (i + 1) < M 0 4000 := by rw [hlen]; exact (xlaw_w 1 hi hj hL (by decide) (by decide)).2
  have d1 : 0 ≤ xw32 (i + 1) ∧ xw32 (i + 1) < m1 0 4000 := by rw [e1]; exact b1
  have h1 : fD_other 1 (M 0 (xw32 (i + 1))) M = some (r, m1) := by simp only [w1]; exact h1
  have h2 : fQ_other 310 (m1 0 (xw32 (i + 1))) m1 = some (r, m2) := by simp only [e1, w1]; exact h2
  refine xEvG_n xml xfetch 6 (y := (296, 1441, [some (53, 0), some (2, 1), some (13, 310), some (0, i)], [(0, (M 0 (xw32 (i + 1)))), (2, 1)], M)) rfl ⟨b1, trivial⟩ ?_
  refine xEvG_call xml xfetch (q := (some (0, r), m1)) rfl (hD_other 1 (M 0 (xw32 (i + 1))) M _ h1) ?_
  show xEv (296, 1444, [some (53, 0), some (2, 1), some (13, 310), some (0, i)], [(0, r)], m1) _
  refine xEvG_n xml xfetch 6 (y := (296, 1450, [some (53, 0), some (2, 1), some (13, 310), some (0, i)], [(0, (m1 0 (xw32 (i + 1)))), (13, 310), (0, r)], m1)) rfl ⟨d1, trivial⟩ ?_
  refine xEvG_call xml xfetch (q := (some (0, r), m2)) rfl (hQ_other 310 (m1 0 (xw32 (i + 1))) m1 _ h2) ?_
  show xEv (296, 1453, [some (53, 0), some (2, 1), some (13, 310), some (0, i)], [(0, r), (0, r)], m2) _
  refine xEvG_n xml xfetch 1 (y := (296, if r = r then 2210 else 1456, [some (53, 0), some (2, 1), some (13, 310), some (0, i)], [], m2)) rfl trivial ?_
  refine xEvG_br xml xfetch (fun _ => ?_) (fun c_ => absurd rfl c_)
  refine xEvG_n xml xfetch 2 (y := (296, 18, [some (53, 0), some (2, 1), some (13, 310), some (0, (xw32 (i + 6)))], [], m2)) rfl trivial ?_
  exact hk e2
def xlawC_42 (a : Int → Int) (M m2 : xM) : Prop := ∃ r : Int, fD_doors 1 (a 1) M = some r ∧ fQ_doors 310 (a 1) M = some (r, m2) ∧ m2 0 = M 0
theorem xlawS_42 {a : Int → Int} {M m2 : xM} (h : xlawC_42 a M m2) : m2 0 = M 0 := by
  obtain ⟨r, h1, h2, e2⟩ := h
  exact e2
theorem xlaw_42 {i L : Int} {M m2 : xM} {z : Option xV × xM} (hi : 0 ≤ i) (hj : i + 6 ≤ L) (hL : L ≤ 3072) (hlen : M 0 4000 = L) (h : xlawC_42 (fun j => M 0 (i + j)) M m2) (hk : m2 0 = M 0 → xEv (296, 18, [some (53, 0), some (2, 1), some (13, 310), some (0, xw32 (i + 6))], [], m2) z) : xEv (296, 1458, [some (53, 0), some (2, 1), some (13, 310), some (0, i)], [], M) z := by
  obtain ⟨r, h1, h2, e2⟩ := h
  have w1 := (xlaw_w 1 hi hj hL (by decide) (by decide)).1
  have b1 : 0 ≤ xw32 (i + 1) ∧ xw32 (i + 1) < M 0 4000 := by rw [hlen]; exact (xlaw_w 1 hi hj hL (by decide) (by decide)).2
  have d1 := b1
  have h1 : fD_doors 1 (M 0 (xw32 (i + 1))) M = some r := by simp only [w1]; exact h1
  have h2 : fQ_doors 310 (M 0 (xw32 (i + 1))) M = some (r, m2) := by simp only [w1]; exact h2
  refine xEvG_n xml xfetch 6 (y := (296, 1464, [some (53, 0), some (2, 1), some (13, 310), some (0, i)], [(0, (M 0 (xw32 (i + 1)))), (2, 1)], M)) rfl ⟨b1, trivial⟩ ?_
  refine xEvG_call xml xfetch (q := (some (0, r), M)) rfl (hD_doors 1 (M 0 (xw32 (i + 1))) M _ h1) ?_
  show xEv (296, 1467, [some (53, 0), some (2, 1), some (13, 310), some (0, i)], [(0, r)], M) _
  refine xEvG_n xml xfetch 6 (y := (296, 1473, [some (53, 0), some (2, 1), some (13, 310), some (0, i)], [(0, (M 0 (xw32 (i + 1)))), (13, 310), (0, r)], M)) rfl ⟨b1, trivial⟩ ?_
  refine xEvG_call xml xfetch (q := (some (0, r), m2)) rfl (hQ_doors 310 (M 0 (xw32 (i + 1))) M _ h2) ?_
  show xEv (296, 1476, [some (53, 0), some (2, 1), some (13, 310), some (0, i)], [(0, r), (0, r)], m2) _
  refine xEvG_n xml xfetch 1 (y := (296, if r = r then 2210 else 1479, [some (53, 0), some (2, 1), some (13, 310), some (0, i)], [], m2)) rfl trivial ?_
  refine xEvG_br xml xfetch (fun _ => ?_) (fun c_ => absurd rfl c_)
  refine xEvG_n xml xfetch 2 (y := (296, 18, [some (53, 0), some (2, 1), some (13, 310), some (0, (xw32 (i + 6)))], [], m2)) rfl trivial ?_
  exact hk e2
def xlawC_43 (a : Int → Int) (M m2 : xM) : Prop := ∃ r : Int, fD_idle 1 M = some r ∧ fQ_idle 310 M = some (r, m2) ∧ m2 0 = M 0
theorem xlawS_43 {a : Int → Int} {M m2 : xM} (h : xlawC_43 a M m2) : m2 0 = M 0 := by
  obtain ⟨r, h1, h2, e2⟩ := h
  exact e2
theorem xlaw_43 {i L : Int} {M m2 : xM} {z : Option xV × xM} (hi : 0 ≤ i) (hj : i + 6 ≤ L) (hL : L ≤ 3072) (hlen : M 0 4000 = L) (h : xlawC_43 (fun j => M 0 (i + j)) M m2) (hk : m2 0 = M 0 → xEv (296, 18, [some (53, 0), some (2, 1), some (13, 310), some (0, xw32 (i + 6))], [], m2) z) : xEv (296, 1481, [some (53, 0), some (2, 1), some (13, 310), some (0, i)], [], M) z := by
  obtain ⟨r, h1, h2, e2⟩ := h
  refine xEvG_n xml xfetch 1 (y := (296, 1482, [some (53, 0), some (2, 1), some (13, 310), some (0, i)], [(2, 1)], M)) rfl trivial ?_
  refine xEvG_call xml xfetch (q := (some (0, r), M)) rfl (hD_idle 1 M _ h1) ?_
  show xEv (296, 1485, [some (53, 0), some (2, 1), some (13, 310), some (0, i)], [(0, r)], M) _
  refine xEvG_n xml xfetch 1 (y := (296, 1486, [some (53, 0), some (2, 1), some (13, 310), some (0, i)], [(13, 310), (0, r)], M)) rfl trivial ?_
  refine xEvG_call xml xfetch (q := (some (0, r), m2)) rfl (hQ_idle 310 M _ h2) ?_
  show xEv (296, 1489, [some (53, 0), some (2, 1), some (13, 310), some (0, i)], [(0, r), (0, r)], m2) _
  refine xEvG_n xml xfetch 1 (y := (296, if r = r then 2210 else 1492, [some (53, 0), some (2, 1), some (13, 310), some (0, i)], [], m2)) rfl trivial ?_
  refine xEvG_br xml xfetch (fun _ => ?_) (fun c_ => absurd rfl c_)
  refine xEvG_n xml xfetch 2 (y := (296, 18, [some (53, 0), some (2, 1), some (13, 310), some (0, (xw32 (i + 6)))], [], m2)) rfl trivial ?_
  exact hk e2
def xlawC_44 (a : Int → Int) (M m2 : xM) : Prop := ∃ r : Int, fD_wanted 1 (a 1) M = some r ∧ fQ_wanted 310 (a 1) M = some (r, m2) ∧ m2 0 = M 0
theorem xlawS_44 {a : Int → Int} {M m2 : xM} (h : xlawC_44 a M m2) : m2 0 = M 0 := by
  obtain ⟨r, h1, h2, e2⟩ := h
  exact e2
theorem xlaw_44 {i L : Int} {M m2 : xM} {z : Option xV × xM} (hi : 0 ≤ i) (hj : i + 6 ≤ L) (hL : L ≤ 3072) (hlen : M 0 4000 = L) (h : xlawC_44 (fun j => M 0 (i + j)) M m2) (hk : m2 0 = M 0 → xEv (296, 18, [some (53, 0), some (2, 1), some (13, 310), some (0, xw32 (i + 6))], [], m2) z) : xEv (296, 1494, [some (53, 0), some (2, 1), some (13, 310), some (0, i)], [], M) z := by
  obtain ⟨r, h1, h2, e2⟩ := h
  have w1 := (xlaw_w 1 hi hj hL (by decide) (by decide)).1
  have b1 : 0 ≤ xw32 (i + 1) ∧ xw32 (i + 1) < M 0 4000 := by rw [hlen]; exact (xlaw_w 1 hi hj hL (by decide) (by decide)).2
  have d1 := b1
  have h1 : fD_wanted 1 (M 0 (xw32 (i + 1))) M = some r := by simp only [w1]; exact h1
  have h2 : fQ_wanted 310 (M 0 (xw32 (i + 1))) M = some (r, m2) := by simp only [w1]; exact h2
  refine xEvG_n xml xfetch 6 (y := (296, 1500, [some (53, 0), some (2, 1), some (13, 310), some (0, i)], [(0, (M 0 (xw32 (i + 1)))), (2, 1)], M)) rfl ⟨b1, trivial⟩ ?_
  refine xEvG_call xml xfetch (q := (some (0, r), M)) rfl (hD_wanted 1 (M 0 (xw32 (i + 1))) M _ h1) ?_
  show xEv (296, 1503, [some (53, 0), some (2, 1), some (13, 310), some (0, i)], [(0, r)], M) _
  refine xEvG_n xml xfetch 6 (y := (296, 1509, [some (53, 0), some (2, 1), some (13, 310), some (0, i)], [(0, (M 0 (xw32 (i + 1)))), (13, 310), (0, r)], M)) rfl ⟨b1, trivial⟩ ?_
  refine xEvG_call xml xfetch (q := (some (0, r), m2)) rfl (hQ_wanted 310 (M 0 (xw32 (i + 1))) M _ h2) ?_
  show xEv (296, 1512, [some (53, 0), some (2, 1), some (13, 310), some (0, i)], [(0, r), (0, r)], m2) _
  refine xEvG_n xml xfetch 1 (y := (296, if r = r then 2210 else 1515, [some (53, 0), some (2, 1), some (13, 310), some (0, i)], [], m2)) rfl trivial ?_
  refine xEvG_br xml xfetch (fun _ => ?_) (fun c_ => absurd rfl c_)
  refine xEvG_n xml xfetch 2 (y := (296, 18, [some (53, 0), some (2, 1), some (13, 310), some (0, (xw32 (i + 6)))], [], m2)) rfl trivial ?_
  exact hk e2
def xlawC_45 (a : Int → Int) (M m2 : xM) : Prop := ∃ r : Int, fD_busy 1 (a 1) M = some r ∧ fQ_busy 310 (a 1) M = some (r, m2) ∧ m2 0 = M 0
theorem xlawS_45 {a : Int → Int} {M m2 : xM} (h : xlawC_45 a M m2) : m2 0 = M 0 := by
  obtain ⟨r, h1, h2, e2⟩ := h
  exact e2
theorem xlaw_45 {i L : Int} {M m2 : xM} {z : Option xV × xM} (hi : 0 ≤ i) (hj : i + 6 ≤ L) (hL : L ≤ 3072) (hlen : M 0 4000 = L) (h : xlawC_45 (fun j => M 0 (i + j)) M m2) (hk : m2 0 = M 0 → xEv (296, 18, [some (53, 0), some (2, 1), some (13, 310), some (0, xw32 (i + 6))], [], m2) z) : xEv (296, 1517, [some (53, 0), some (2, 1), some (13, 310), some (0, i)], [], M) z := by
  obtain ⟨r, h1, h2, e2⟩ := h
  have w1 := (xlaw_w 1 hi hj hL (by decide) (by decide)).1
  have b1 : 0 ≤ xw32 (i + 1) ∧ xw32 (i + 1) < M 0 4000 := by rw [hlen]; exact (xlaw_w 1 hi hj hL (by decide) (by decide)).2
  have d1 := b1
  have h1 : fD_busy 1 (M 0 (xw32 (i + 1))) M = some r := by simp only [w1]; exact h1
  have h2 : fQ_busy 310 (M 0 (xw32 (i + 1))) M = some (r, m2) := by simp only [w1]; exact h2
  refine xEvG_n xml xfetch 6 (y := (296, 1523, [some (53, 0), some (2, 1), some (13, 310), some (0, i)], [(0, (M 0 (xw32 (i + 1)))), (2, 1)], M)) rfl ⟨b1, trivial⟩ ?_
  refine xEvG_call xml xfetch (q := (some (0, r), M)) rfl (hD_busy 1 (M 0 (xw32 (i + 1))) M _ h1) ?_
  show xEv (296, 1526, [some (53, 0), some (2, 1), some (13, 310), some (0, i)], [(0, r)], M) _
  refine xEvG_n xml xfetch 6 (y := (296, 1532, [some (53, 0), some (2, 1), some (13, 310), some (0, i)], [(0, (M 0 (xw32 (i + 1)))), (13, 310), (0, r)], M)) rfl ⟨b1, trivial⟩ ?_
  refine xEvG_call xml xfetch (q := (some (0, r), m2)) rfl (hQ_busy 310 (M 0 (xw32 (i + 1))) M _ h2) ?_
  show xEv (296, 1535, [some (53, 0), some (2, 1), some (13, 310), some (0, i)], [(0, r), (0, r)], m2) _
  refine xEvG_n xml xfetch 1 (y := (296, if r = r then 2210 else 1538, [some (53, 0), some (2, 1), some (13, 310), some (0, i)], [], m2)) rfl trivial ?_
  refine xEvG_br xml xfetch (fun _ => ?_) (fun c_ => absurd rfl c_)
  refine xEvG_n xml xfetch 2 (y := (296, 18, [some (53, 0), some (2, 1), some (13, 310), some (0, (xw32 (i + 6)))], [], m2)) rfl trivial ?_
  exact hk e2
def xlawC_46 (a : Int → Int) (M m2 : xM) : Prop := ∃ r : Int, ∃ m1 : xM, fD_refused 1 (a 1) M = some (r, m1) ∧ m1 0 = M 0 ∧ fQ_refused 310 (a 1) m1 = some (r, m2) ∧ m2 0 = M 0
theorem xlawS_46 {a : Int → Int} {M m2 : xM} (h : xlawC_46 a M m2) : m2 0 = M 0 := by
  obtain ⟨r, m1, h1, e1, h2, e2⟩ := h
  exact e2
theorem xlaw_46 {i L : Int} {M m2 : xM} {z : Option xV × xM} (hi : 0 ≤ i) (hj : i + 6 ≤ L) (hL : L ≤ 3072) (hlen : M 0 4000 = L) (h : xlawC_46 (fun j => M 0 (i + j)) M m2) (hk : m2 0 = M 0 → xEv (296, 18, [some (53, 0), some (2, 1), some (13, 310), some (0, xw32 (i + 6))], [], m2) z) : xEv (296, 1540, [some (53, 0), some (2, 1), some (13, 310), some (0, i)], [], M) z := by
  obtain ⟨r, m1, h1, e1, h2, e2⟩ := h
  have w1 := (xlaw_w 1 hi hj hL (by decide) (by decide)).1
  have b1 : 0 ≤ xw32 (i + 1) ∧ xw32 (i + 1) < M 0 4000 := by rw [hlen]; exact (xlaw_w 1 hi hj hL (by decide) (by decide)).2
  have d1 : 0 ≤ xw32 (i + 1) ∧ xw32 (i + 1) < m1 0 4000 := by rw [e1]; exact b1
  have h1 : fD_refused 1 (M 0 (xw32 (i + 1))) M = some (r, m1) := by simp only [w1]; exact h1
  have h2 : fQ_refused 310 (m1 0 (xw32 (i + 1))) m1 = some (r, m2) := by simp only [e1, w1]; exact h2
  refine xEvG_n xml xfetch 6 (y := (296, 1546, [some (53, 0), some (2, 1), some (13, 310), some (0, i)], [(0, (M 0 (xw32 (i + 1)))), (2, 1)], M)) rfl ⟨b1, trivial⟩ ?_
  refine xEvG_call xml xfetch (q := (some (0, r), m1)) rfl (hD_refused 1 (M 0 (xw32 (i + 1))) M _ h1) ?_
  show xEv (296, 1549, [some (53, 0), some (2, 1), some (13, 310), some (0, i)], [(0, r)], m1) _
  refine xEvG_n xml xfetch 6 (y := (296, 1555, [some (53, 0), some (2, 1), some (13, 310), some (0, i)], [(0, (m1 0 (xw32 (i + 1)))), (13, 310), (0, r)], m1)) rfl ⟨d1, trivial⟩ ?_
  refine xEvG_call xml xfetch (q := (some (0, r), m2)) rfl (hQ_refused 310 (m1 0 (xw32 (i + 1))) m1 _ h2) ?_
  show xEv (296, 1558, [some (53, 0), some (2, 1), some (13, 310), some (0, i)], [(0, r), (0, r)], m2) _
  refine xEvG_n xml xfetch 1 (y := (296, if r = r then 2210 else 1561, [some (53, 0), some (2, 1), some (13, 310), some (0, i)], [], m2)) rfl trivial ?_
  refine xEvG_br xml xfetch (fun _ => ?_) (fun c_ => absurd rfl c_)
  refine xEvG_n xml xfetch 2 (y := (296, 18, [some (53, 0), some (2, 1), some (13, 310), some (0, (xw32 (i + 6)))], [], m2)) rfl trivial ?_
  exact hk e2
def xlawC_47 (a : Int → Int) (M m2 : xM) : Prop := ∃ r : Int, ∃ m1 : xM, fD_fewest 1 (a 1) M = some (r, m1) ∧ m1 0 = M 0 ∧ fQ_fewest 310 (a 1) m1 = some (r, m2) ∧ m2 0 = M 0
theorem xlawS_47 {a : Int → Int} {M m2 : xM} (h : xlawC_47 a M m2) : m2 0 = M 0 := by
  obtain ⟨r, m1, h1, e1, h2, e2⟩ := h
  exact e2
theorem xlaw_47 {i L : Int} {M m2 : xM} {z : Option xV × xM} (hi : 0 ≤ i) (hj : i + 6 ≤ L) (hL : L ≤ 3072) (hlen : M 0 4000 = L) (h : xlawC_47 (fun j => M 0 (i + j)) M m2) (hk : m2 0 = M 0 → xEv (296, 18, [some (53, 0), some (2, 1), some (13, 310), some (0, xw32 (i + 6))], [], m2) z) : xEv (296, 1563, [some (53, 0), some (2, 1), some (13, 310), some (0, i)], [], M) z := by
  obtain ⟨r, m1, h1, e1, h2, e2⟩ := h
  have w1 := (xlaw_w 1 hi hj hL (by decide) (by decide)).1
  have b1 : 0 ≤ xw32 (i + 1) ∧ xw32 (i + 1) < M 0 4000 := by rw [hlen]; exact (xlaw_w 1 hi hj hL (by decide) (by decide)).2
  have d1 : 0 ≤ xw32 (i + 1) ∧ xw32 (i + 1) < m1 0 4000 := by rw [e1]; exact b1
  have h1 : fD_fewest 1 (M 0 (xw32 (i + 1))) M = some (r, m1) := by simp only [w1]; exact h1
  have h2 : fQ_fewest 310 (m1 0 (xw32 (i + 1))) m1 = some (r, m2) := by simp only [e1, w1]; exact h2
  refine xEvG_n xml xfetch 6 (y := (296, 1569, [some (53, 0), some (2, 1), some (13, 310), some (0, i)], [(0, (M 0 (xw32 (i + 1)))), (2, 1)], M)) rfl ⟨b1, trivial⟩ ?_
  refine xEvG_call xml xfetch (q := (some (0, r), m1)) rfl (hD_fewest 1 (M 0 (xw32 (i + 1))) M _ h1) ?_
  show xEv (296, 1572, [some (53, 0), some (2, 1), some (13, 310), some (0, i)], [(0, r)], m1) _
  refine xEvG_n xml xfetch 6 (y := (296, 1578, [some (53, 0), some (2, 1), some (13, 310), some (0, i)], [(0, (m1 0 (xw32 (i + 1)))), (13, 310), (0, r)], m1)) rfl ⟨d1, trivial⟩ ?_
  refine xEvG_call xml xfetch (q := (some (0, r), m2)) rfl (hQ_fewest 310 (m1 0 (xw32 (i + 1))) m1 _ h2) ?_
  show xEv (296, 1581, [some (53, 0), some (2, 1), some (13, 310), some (0, i)], [(0, r), (0, r)], m2) _
  refine xEvG_n xml xfetch 1 (y := (296, if r = r then 2210 else 1584, [some (53, 0), some (2, 1), some (13, 310), some (0, i)], [], m2)) rfl trivial ?_
  refine xEvG_br xml xfetch (fun _ => ?_) (fun c_ => absurd rfl c_)
  refine xEvG_n xml xfetch 2 (y := (296, 18, [some (53, 0), some (2, 1), some (13, 310), some (0, (xw32 (i + 6)))], [], m2)) rfl trivial ?_
  exact hk e2
def xlawC_48 (a : Int → Int) (M m2 : xM) : Prop := ∃ r : Int, ∃ m1 : xM, fD_sure 1 (a 1) (a 2) M = some (r, m1) ∧ m1 0 = M 0 ∧ fQ_sure 310 (a 1) (a 2) m1 = some (r, m2) ∧ m2 0 = M 0
theorem xlawS_48 {a : Int → Int} {M m2 : xM} (h : xlawC_48 a M m2) : m2 0 = M 0 := by
  obtain ⟨r, m1, h1, e1, h2, e2⟩ := h
  exact e2
theorem xlaw_48 {i L : Int} {M m2 : xM} {z : Option xV × xM} (hi : 0 ≤ i) (hj : i + 6 ≤ L) (hL : L ≤ 3072) (hlen : M 0 4000 = L) (h : xlawC_48 (fun j => M 0 (i + j)) M m2) (hk : m2 0 = M 0 → xEv (296, 18, [some (53, 0), some (2, 1), some (13, 310), some (0, xw32 (i + 6))], [], m2) z) : xEv (296, 1586, [some (53, 0), some (2, 1), some (13, 310), some (0, i)], [], M) z := by
  obtain ⟨r, m1, h1, e1, h2, e2⟩ := h
  have w1 := (xlaw_w 1 hi hj hL (by decide) (by decide)).1
  have b1 : 0 ≤ xw32 (i + 1) ∧ xw32 (i + 1) < M 0 4000 := by rw [hlen]; exact (xlaw_w 1 hi hj hL (by decide) (by decide)).2
  have d1 : 0 ≤ xw32 (i + 1) ∧ xw32 (i + 1) < m1 0 4000 := by rw [e1]; exact b1
  have w2 := (xlaw_w 2 hi hj hL (by decide) (by decide)).1
  have b2 : 0 ≤ xw32 (i + 2) ∧ xw32 (i + 2) < M 0 4000 := by rw [hlen]; exact (xlaw_w 2 hi hj hL (by decide) (by decide)).2
  have d2 : 0 ≤ xw32 (i + 2) ∧ xw32 (i + 2) < m1 0 4000 := by rw [e1]; exact b2
  have h1 : fD_sure 1 (M 0 (xw32 (i + 1))) (M 0 (xw32 (i + 2))) M = some (r, m1) := by simp only [w1, w2]; exact h1
  have h2 : fQ_sure 310 (m1 0 (xw32 (i + 1))) (m1 0 (xw32 (i + 2))) m1 = some (r, m2) := by simp only [e1, w1, w2]; exact h2
  refine xEvG_n xml xfetch 11 (y := (296, 1597, [some (53, 0), some (2, 1), some (13, 310), some (0, i)], [(0, (M 0 (xw32 (i + 2)))), (0, (M 0 (xw32 (i + 1)))), (2, 1)], M)) rfl ⟨b1, b2, trivial⟩ ?_
  refine xEvG_call xml xfetch (q := (some (0, r), m1)) rfl (hD_sure 1 (M 0 (xw32 (i + 1))) (M 0 (xw32 (i + 2))) M _ h1) ?_
  show xEv (296, 1600, [some (53, 0), some (2, 1), some (13, 310), some (0, i)], [(0, r)], m1) _
  refine xEvG_n xml xfetch 11 (y := (296, 1611, [some (53, 0), some (2, 1), some (13, 310), some (0, i)], [(0, (m1 0 (xw32 (i + 2)))), (0, (m1 0 (xw32 (i + 1)))), (13, 310), (0, r)], m1)) rfl ⟨d1, d2, trivial⟩ ?_
  refine xEvG_call xml xfetch (q := (some (0, r), m2)) rfl (hQ_sure 310 (m1 0 (xw32 (i + 1))) (m1 0 (xw32 (i + 2))) m1 _ h2) ?_
  show xEv (296, 1614, [some (53, 0), some (2, 1), some (13, 310), some (0, i)], [(0, r), (0, r)], m2) _
  refine xEvG_n xml xfetch 1 (y := (296, if r = r then 2210 else 1617, [some (53, 0), some (2, 1), some (13, 310), some (0, i)], [], m2)) rfl trivial ?_
  refine xEvG_br xml xfetch (fun _ => ?_) (fun c_ => absurd rfl c_)
  refine xEvG_n xml xfetch 2 (y := (296, 18, [some (53, 0), some (2, 1), some (13, 310), some (0, (xw32 (i + 6)))], [], m2)) rfl trivial ?_
  exact hk e2
def xlawC_49 (a : Int → Int) (M m2 : xM) : Prop := ∃ r : Int, fD_odd 1 (a 1) M = some r ∧ fQ_odd 310 (a 1) M = some (r, m2) ∧ m2 0 = M 0
theorem xlawS_49 {a : Int → Int} {M m2 : xM} (h : xlawC_49 a M m2) : m2 0 = M 0 := by
  obtain ⟨r, h1, h2, e2⟩ := h
  exact e2
theorem xlaw_49 {i L : Int} {M m2 : xM} {z : Option xV × xM} (hi : 0 ≤ i) (hj : i + 6 ≤ L) (hL : L ≤ 3072) (hlen : M 0 4000 = L) (h : xlawC_49 (fun j => M 0 (i + j)) M m2) (hk : m2 0 = M 0 → xEv (296, 18, [some (53, 0), some (2, 1), some (13, 310), some (0, xw32 (i + 6))], [], m2) z) : xEv (296, 1619, [some (53, 0), some (2, 1), some (13, 310), some (0, i)], [], M) z := by
  obtain ⟨r, h1, h2, e2⟩ := h
  have w1 := (xlaw_w 1 hi hj hL (by decide) (by decide)).1
  have b1 : 0 ≤ xw32 (i + 1) ∧ xw32 (i + 1) < M 0 4000 := by rw [hlen]; exact (xlaw_w 1 hi hj hL (by decide) (by decide)).2
  have d1 := b1
  have h1 : fD_odd 1 (M 0 (xw32 (i + 1))) M = some r := by simp only [w1]; exact h1
  have h2 : fQ_odd 310 (M 0 (xw32 (i + 1))) M = some (r, m2) := by simp only [w1]; exact h2
  refine xEvG_n xml xfetch 6 (y := (296, 1625, [some (53, 0), some (2, 1), some (13, 310), some (0, i)], [(0, (M 0 (xw32 (i + 1)))), (2, 1)], M)) rfl ⟨b1, trivial⟩ ?_
  refine xEvG_call xml xfetch (q := (some (0, r), M)) rfl (hD_odd 1 (M 0 (xw32 (i + 1))) M _ h1) ?_
  show xEv (296, 1628, [some (53, 0), some (2, 1), some (13, 310), some (0, i)], [(0, r)], M) _
  refine xEvG_n xml xfetch 6 (y := (296, 1634, [some (53, 0), some (2, 1), some (13, 310), some (0, i)], [(0, (M 0 (xw32 (i + 1)))), (13, 310), (0, r)], M)) rfl ⟨b1, trivial⟩ ?_
  refine xEvG_call xml xfetch (q := (some (0, r), m2)) rfl (hQ_odd 310 (M 0 (xw32 (i + 1))) M _ h2) ?_
  show xEv (296, 1637, [some (53, 0), some (2, 1), some (13, 310), some (0, i)], [(0, r), (0, r)], m2) _
  refine xEvG_n xml xfetch 1 (y := (296, if r = r then 2210 else 1640, [some (53, 0), some (2, 1), some (13, 310), some (0, i)], [], m2)) rfl trivial ?_
  refine xEvG_br xml xfetch (fun _ => ?_) (fun c_ => absurd rfl c_)
  refine xEvG_n xml xfetch 2 (y := (296, 18, [some (53, 0), some (2, 1), some (13, 310), some (0, (xw32 (i + 6)))], [], m2)) rfl trivial ?_
  exact hk e2
def xlawC_50 (a : Int → Int) (M m2 : xM) : Prop := ∃ r : Int, fD_forged 1 (a 1) M = some r ∧ fQ_forged 310 (a 1) M = some (r, m2) ∧ m2 0 = M 0
theorem xlawS_50 {a : Int → Int} {M m2 : xM} (h : xlawC_50 a M m2) : m2 0 = M 0 := by
  obtain ⟨r, h1, h2, e2⟩ := h
  exact e2
theorem xlaw_50 {i L : Int} {M m2 : xM} {z : Option xV × xM} (hi : 0 ≤ i) (hj : i + 6 ≤ L) (hL : L ≤ 3072) (hlen : M 0 4000 = L) (h : xlawC_50 (fun j => M 0 (i + j)) M m2) (hk : m2 0 = M 0 → xEv (296, 18, [some (53, 0), some (2, 1), some (13, 310), some (0, xw32 (i + 6))], [], m2) z) : xEv (296, 1642, [some (53, 0), some (2, 1), some (13, 310), some (0, i)], [], M) z := by
  obtain ⟨r, h1, h2, e2⟩ := h
  have w1 := (xlaw_w 1 hi hj hL (by decide) (by decide)).1
  have b1 : 0 ≤ xw32 (i + 1) ∧ xw32 (i + 1) < M 0 4000 := by rw [hlen]; exact (xlaw_w 1 hi hj hL (by decide) (by decide)).2
  have d1 := b1
  have h1 : fD_forged 1 (M 0 (xw32 (i + 1))) M = some r := by simp only [w1]; exact h1
  have h2 : fQ_forged 310 (M 0 (xw32 (i + 1))) M = some (r, m2) := by simp only [w1]; exact h2
  refine xEvG_n xml xfetch 6 (y := (296, 1648, [some (53, 0), some (2, 1), some (13, 310), some (0, i)], [(0, (M 0 (xw32 (i + 1)))), (2, 1)], M)) rfl ⟨b1, trivial⟩ ?_
  refine xEvG_call xml xfetch (q := (some (0, r), M)) rfl (hD_forged 1 (M 0 (xw32 (i + 1))) M _ h1) ?_
  show xEv (296, 1651, [some (53, 0), some (2, 1), some (13, 310), some (0, i)], [(0, r)], M) _
  refine xEvG_n xml xfetch 6 (y := (296, 1657, [some (53, 0), some (2, 1), some (13, 310), some (0, i)], [(0, (M 0 (xw32 (i + 1)))), (13, 310), (0, r)], M)) rfl ⟨b1, trivial⟩ ?_
  refine xEvG_call xml xfetch (q := (some (0, r), m2)) rfl (hQ_forged 310 (M 0 (xw32 (i + 1))) M _ h2) ?_
  show xEv (296, 1660, [some (53, 0), some (2, 1), some (13, 310), some (0, i)], [(0, r), (0, r)], m2) _
  refine xEvG_n xml xfetch 1 (y := (296, if r = r then 2210 else 1663, [some (53, 0), some (2, 1), some (13, 310), some (0, i)], [], m2)) rfl trivial ?_
  refine xEvG_br xml xfetch (fun _ => ?_) (fun c_ => absurd rfl c_)
  refine xEvG_n xml xfetch 2 (y := (296, 18, [some (53, 0), some (2, 1), some (13, 310), some (0, (xw32 (i + 6)))], [], m2)) rfl trivial ?_
  exact hk e2
def xlawC_51 (a : Int → Int) (M m2 : xM) : Prop := ∃ r : Int, fD_forger 1 (a 1) M = some r ∧ fQ_forger 310 (a 1) M = some (r, m2) ∧ m2 0 = M 0
theorem xlawS_51 {a : Int → Int} {M m2 : xM} (h : xlawC_51 a M m2) : m2 0 = M 0 := by
  obtain ⟨r, h1, h2, e2⟩ := h
  exact e2
theorem xlaw_51 {i L : Int} {M m2 : xM} {z : Option xV × xM} (hi : 0 ≤ i) (hj : i + 6 ≤ L) (hL : L ≤ 3072) (hlen : M 0 4000 = L) (h : xlawC_51 (fun j => M 0 (i + j)) M m2) (hk : m2 0 = M 0 → xEv (296, 18, [some (53, 0), some (2, 1), some (13, 310), some (0, xw32 (i + 6))], [], m2) z) : xEv (296, 1665, [some (53, 0), some (2, 1), some (13, 310), some (0, i)], [], M) z := by
  obtain ⟨r, h1, h2, e2⟩ := h
  have w1 := (xlaw_w 1 hi hj hL (by decide) (by decide)).1
  have b1 : 0 ≤ xw32 (i + 1) ∧ xw32 (i + 1) < M 0 4000 := by rw [hlen]; exact (xlaw_w 1 hi hj hL (by decide) (by decide)).2
  have d1 := b1
  have h1 : fD_forger 1 (M 0 (xw32 (i + 1))) M = some r := by simp only [w1]; exact h1
  have h2 : fQ_forger 310 (M 0 (xw32 (i + 1))) M = some (r, m2) := by simp only [w1]; exact h2
  refine xEvG_n xml xfetch 6 (y := (296, 1671, [some (53, 0), some (2, 1), some (13, 310), some (0, i)], [(0, (M 0 (xw32 (i + 1)))), (2, 1)], M)) rfl ⟨b1, trivial⟩ ?_
  refine xEvG_call xml xfetch (q := (some (0, r), M)) rfl (hD_forger 1 (M 0 (xw32 (i + 1))) M _ h1) ?_
  show xEv (296, 1674, [some (53, 0), some (2, 1), some (13, 310), some (0, i)], [(0, r)], M) _
  refine xEvG_n xml xfetch 6 (y := (296, 1680, [some (53, 0), some (2, 1), some (13, 310), some (0, i)], [(0, (M 0 (xw32 (i + 1)))), (13, 310), (0, r)], M)) rfl ⟨b1, trivial⟩ ?_
  refine xEvG_call xml xfetch (q := (some (0, r), m2)) rfl (hQ_forger 310 (M 0 (xw32 (i + 1))) M _ h2) ?_
  show xEv (296, 1683, [some (53, 0), some (2, 1), some (13, 310), some (0, i)], [(0, r), (0, r)], m2) _
  refine xEvG_n xml xfetch 1 (y := (296, if r = r then 2210 else 1686, [some (53, 0), some (2, 1), some (13, 310), some (0, i)], [], m2)) rfl trivial ?_
  refine xEvG_br xml xfetch (fun _ => ?_) (fun c_ => absurd rfl c_)
  refine xEvG_n xml xfetch 2 (y := (296, 18, [some (53, 0), some (2, 1), some (13, 310), some (0, (xw32 (i + 6)))], [], m2)) rfl trivial ?_
  exact hk e2
def xlawC_52 (a : Int → Int) (M m2 : xM) : Prop := ∃ r : Int, ∃ m1 : xM, fD_temper 1 (a 1) (a 2) M = some (r, m1) ∧ m1 0 = M 0 ∧ fQ_temper 310 (a 1) (a 2) m1 = some (r, m2) ∧ m2 0 = M 0
theorem xlawS_52 {a : Int → Int} {M m2 : xM} (h : xlawC_52 a M m2) : m2 0 = M 0 := by
  obtain ⟨r, m1, h1, e1, h2, e2⟩ := h
  exact e2
theorem xlaw_52 {i L : Int} {M m2 : xM} {z : Option xV × xM} (hi : 0 ≤ i) (hj : i + 6 ≤ L) (hL : L ≤ 3072) (hlen : M 0 4000 = L) (h : xlawC_52 (fun j => M 0 (i + j)) M m2) (hk : m2 0 = M 0 → xEv (296, 18, [some (53, 0), some (2, 1), some (13, 310), some (0, xw32 (i + 6))], [], m2) z) : xEv (296, 1688, [some (53, 0), some (2, 1), some (13, 310), some (0, i)], [], M) z := by
  obtain ⟨r, m1, h1, e1, h2, e2⟩ := h
  have w1 := (xlaw_w 1 hi hj hL (by decide) (by decide)).1
  have b1 : 0 ≤ xw32 (i + 1) ∧ xw32 (i + 1) < M 0 4000 := by rw [hlen]; exact (xlaw_w 1 hi hj hL (by decide) (by decide)).2
  have d1 : 0 ≤ xw32 (i + 1) ∧ xw32 (i + 1) < m1 0 4000 := by rw [e1]; exact b1
  have w2 := (xlaw_w 2 hi hj hL (by decide) (by decide)).1
  have b2 : 0 ≤ xw32 (i + 2) ∧ xw32 (i + 2) < M 0 4000 := by rw [hlen]; exact (xlaw_w 2 hi hj hL (by decide) (by decide)).2
  have d2 : 0 ≤ xw32 (i + 2) ∧ xw32 (i + 2) < m1 0 4000 := by rw [e1]; exact b2
  have h1 : fD_temper 1 (M 0 (xw32 (i + 1))) (M 0 (xw32 (i + 2))) M = some (r, m1) := by simp only [w1, w2]; exact h1
  have h2 : fQ_temper 310 (m1 0 (xw32 (i + 1))) (m1 0 (xw32 (i + 2))) m1 = some (r, m2) := by simp only [e1, w1, w2]; exact h2
  refine xEvG_n xml xfetch 11 (y := (296, 1699, [some (53, 0), some (2, 1), some (13, 310), some (0, i)], [(0, (M 0 (xw32 (i + 2)))), (0, (M 0 (xw32 (i + 1)))), (2, 1)], M)) rfl ⟨b1, b2, trivial⟩ ?_
  refine xEvG_call xml xfetch (q := (some (0, r), m1)) rfl (hD_temper 1 (M 0 (xw32 (i + 1))) (M 0 (xw32 (i + 2))) M _ h1) ?_
  show xEv (296, 1702, [some (53, 0), some (2, 1), some (13, 310), some (0, i)], [(0, r)], m1) _
  refine xEvG_n xml xfetch 11 (y := (296, 1713, [some (53, 0), some (2, 1), some (13, 310), some (0, i)], [(0, (m1 0 (xw32 (i + 2)))), (0, (m1 0 (xw32 (i + 1)))), (13, 310), (0, r)], m1)) rfl ⟨d1, d2, trivial⟩ ?_
  refine xEvG_call xml xfetch (q := (some (0, r), m2)) rfl (hQ_temper 310 (m1 0 (xw32 (i + 1))) (m1 0 (xw32 (i + 2))) m1 _ h2) ?_
  show xEv (296, 1716, [some (53, 0), some (2, 1), some (13, 310), some (0, i)], [(0, r), (0, r)], m2) _
  refine xEvG_n xml xfetch 1 (y := (296, if r = r then 2210 else 1719, [some (53, 0), some (2, 1), some (13, 310), some (0, i)], [], m2)) rfl trivial ?_
  refine xEvG_br xml xfetch (fun _ => ?_) (fun c_ => absurd rfl c_)
  refine xEvG_n xml xfetch 2 (y := (296, 18, [some (53, 0), some (2, 1), some (13, 310), some (0, (xw32 (i + 6)))], [], m2)) rfl trivial ?_
  exact hk e2
def xlawC_53 (a : Int → Int) (M m2 : xM) : Prop := ∃ r : Int, ∃ m1 : xM, fD_quarrel 1 (a 1) (a 2) M = some (r, m1) ∧ m1 0 = M 0 ∧ fQ_quarrel 310 (a 1) (a 2) m1 = some (r, m2) ∧ m2 0 = M 0
theorem xlawS_53 {a : Int → Int} {M m2 : xM} (h : xlawC_53 a M m2) : m2 0 = M 0 := by
  obtain ⟨r, m1, h1, e1, h2, e2⟩ := h
  exact e2
theorem xlaw_53 {i L : Int} {M m2 : xM} {z : Option xV × xM} (hi : 0 ≤ i) (hj : i + 6 ≤ L) (hL : L ≤ 3072) (hlen : M 0 4000 = L) (h : xlawC_53 (fun j => M 0 (i + j)) M m2) (hk : m2 0 = M 0 → xEv (296, 18, [some (53, 0), some (2, 1), some (13, 310), some (0, xw32 (i + 6))], [], m2) z) : xEv (296, 1721, [some (53, 0), some (2, 1), some (13, 310), some (0, i)], [], M) z := by
  obtain ⟨r, m1, h1, e1, h2, e2⟩ := h
  have w1 := (xlaw_w 1 hi hj hL (by decide) (by decide)).1
  have b1 : 0 ≤ xw32 (i + 1) ∧ xw32 (i + 1) < M 0 4000 := by rw [hlen]; exact (xlaw_w 1 hi hj hL (by decide) (by decide)).2
  have d1 : 0 ≤ xw32 (i + 1) ∧ xw32 (i + 1) < m1 0 4000 := by rw [e1]; exact b1
  have w2 := (xlaw_w 2 hi hj hL (by decide) (by decide)).1
  have b2 : 0 ≤ xw32 (i + 2) ∧ xw32 (i + 2) < M 0 4000 := by rw [hlen]; exact (xlaw_w 2 hi hj hL (by decide) (by decide)).2
  have d2 : 0 ≤ xw32 (i + 2) ∧ xw32 (i + 2) < m1 0 4000 := by rw [e1]; exact b2
  have h1 : fD_quarrel 1 (M 0 (xw32 (i + 1))) (M 0 (xw32 (i + 2))) M = some (r, m1) := by simp only [w1, w2]; exact h1
  have h2 : fQ_quarrel 310 (m1 0 (xw32 (i + 1))) (m1 0 (xw32 (i + 2))) m1 = some (r, m2) := by simp only [e1, w1, w2]; exact h2
  refine xEvG_n xml xfetch 11 (y := (296, 1732, [some (53, 0), some (2, 1), some (13, 310), some (0, i)], [(0, (M 0 (xw32 (i + 2)))), (0, (M 0 (xw32 (i + 1)))), (2, 1)], M)) rfl ⟨b1, b2, trivial⟩ ?_
  refine xEvG_call xml xfetch (q := (some (0, r), m1)) rfl (hD_quarrel 1 (M 0 (xw32 (i + 1))) (M 0 (xw32 (i + 2))) M _ h1) ?_
  show xEv (296, 1735, [some (53, 0), some (2, 1), some (13, 310), some (0, i)], [(0, r)], m1) _
  refine xEvG_n xml xfetch 11 (y := (296, 1746, [some (53, 0), some (2, 1), some (13, 310), some (0, i)], [(0, (m1 0 (xw32 (i + 2)))), (0, (m1 0 (xw32 (i + 1)))), (13, 310), (0, r)], m1)) rfl ⟨d1, d2, trivial⟩ ?_
  refine xEvG_call xml xfetch (q := (some (0, r), m2)) rfl (hQ_quarrel 310 (m1 0 (xw32 (i + 1))) (m1 0 (xw32 (i + 2))) m1 _ h2) ?_
  show xEv (296, 1749, [some (53, 0), some (2, 1), some (13, 310), some (0, i)], [(0, r), (0, r)], m2) _
  refine xEvG_n xml xfetch 1 (y := (296, if r = r then 2210 else 1752, [some (53, 0), some (2, 1), some (13, 310), some (0, i)], [], m2)) rfl trivial ?_
  refine xEvG_br xml xfetch (fun _ => ?_) (fun c_ => absurd rfl c_)
  refine xEvG_n xml xfetch 2 (y := (296, 18, [some (53, 0), some (2, 1), some (13, 310), some (0, (xw32 (i + 6)))], [], m2)) rfl trivial ?_
  exact hk e2
def xlawC_54 (a : Int → Int) (M m2 : xM) : Prop := ∃ r : Int, ∃ m1 : xM, fD_vow 1 (a 1) (a 2) M = some (r, m1) ∧ m1 0 = M 0 ∧ fQ_vow 310 (a 1) (a 2) m1 = some (r, m2) ∧ m2 0 = M 0
theorem xlawS_54 {a : Int → Int} {M m2 : xM} (h : xlawC_54 a M m2) : m2 0 = M 0 := by
  obtain ⟨r, m1, h1, e1, h2, e2⟩ := h
  exact e2
theorem xlaw_54 {i L : Int} {M m2 : xM} {z : Option xV × xM} (hi : 0 ≤ i) (hj : i + 6 ≤ L) (hL : L ≤ 3072) (hlen : M 0 4000 = L) (h : xlawC_54 (fun j => M 0 (i + j)) M m2) (hk : m2 0 = M 0 → xEv (296, 18, [some (53, 0), some (2, 1), some (13, 310), some (0, xw32 (i + 6))], [], m2) z) : xEv (296, 1754, [some (53, 0), some (2, 1), some (13, 310), some (0, i)], [], M) z := by
  obtain ⟨r, m1, h1, e1, h2, e2⟩ := h
  have w1 := (xlaw_w 1 hi hj hL (by decide) (by decide)).1
  have b1 : 0 ≤ xw32 (i + 1) ∧ xw32 (i + 1) < M 0 4000 := by rw [hlen]; exact (xlaw_w 1 hi hj hL (by decide) (by decide)).2
  have d1 : 0 ≤ xw32 (i + 1) ∧ xw32 (i + 1) < m1 0 4000 := by rw [e1]; exact b1
  have w2 := (xlaw_w 2 hi hj hL (by decide) (by decide)).1
  have b2 : 0 ≤ xw32 (i + 2) ∧ xw32 (i + 2) < M 0 4000 := by rw [hlen]; exact (xlaw_w 2 hi hj hL (by decide) (by decide)).2
  have d2 : 0 ≤ xw32 (i + 2) ∧ xw32 (i + 2) < m1 0 4000 := by rw [e1]; exact b2
  have h1 : fD_vow 1 (M 0 (xw32 (i + 1))) (M 0 (xw32 (i + 2))) M = some (r, m1) := by simp only [w1, w2]; exact h1
  have h2 : fQ_vow 310 (m1 0 (xw32 (i + 1))) (m1 0 (xw32 (i + 2))) m1 = some (r, m2) := by simp only [e1, w1, w2]; exact h2
  refine xEvG_n xml xfetch 11 (y := (296, 1765, [some (53, 0), some (2, 1), some (13, 310), some (0, i)], [(0, (M 0 (xw32 (i + 2)))), (0, (M 0 (xw32 (i + 1)))), (2, 1)], M)) rfl ⟨b1, b2, trivial⟩ ?_
  refine xEvG_call xml xfetch (q := (some (0, r), m1)) rfl (hD_vow 1 (M 0 (xw32 (i + 1))) (M 0 (xw32 (i + 2))) M _ h1) ?_
  show xEv (296, 1768, [some (53, 0), some (2, 1), some (13, 310), some (0, i)], [(0, r)], m1) _
  refine xEvG_n xml xfetch 11 (y := (296, 1779, [some (53, 0), some (2, 1), some (13, 310), some (0, i)], [(0, (m1 0 (xw32 (i + 2)))), (0, (m1 0 (xw32 (i + 1)))), (13, 310), (0, r)], m1)) rfl ⟨d1, d2, trivial⟩ ?_
  refine xEvG_call xml xfetch (q := (some (0, r), m2)) rfl (hQ_vow 310 (m1 0 (xw32 (i + 1))) (m1 0 (xw32 (i + 2))) m1 _ h2) ?_
  show xEv (296, 1782, [some (53, 0), some (2, 1), some (13, 310), some (0, i)], [(0, r), (0, r)], m2) _
  refine xEvG_n xml xfetch 1 (y := (296, if r = r then 2210 else 1785, [some (53, 0), some (2, 1), some (13, 310), some (0, i)], [], m2)) rfl trivial ?_
  refine xEvG_br xml xfetch (fun _ => ?_) (fun c_ => absurd rfl c_)
  refine xEvG_n xml xfetch 2 (y := (296, 18, [some (53, 0), some (2, 1), some (13, 310), some (0, (xw32 (i + 6)))], [], m2)) rfl trivial ?_
  exact hk e2
def xlawC_55 (a : Int → Int) (M m2 : xM) : Prop := ∃ r : Int, fD_sleep 1 (a 1) (a 2) M = some r ∧ fQ_sleep 310 (a 1) (a 2) M = some (r, m2) ∧ m2 0 = M 0
theorem xlawS_55 {a : Int → Int} {M m2 : xM} (h : xlawC_55 a M m2) : m2 0 = M 0 := by
  obtain ⟨r, h1, h2, e2⟩ := h
  exact e2
theorem xlaw_55 {i L : Int} {M m2 : xM} {z : Option xV × xM} (hi : 0 ≤ i) (hj : i + 6 ≤ L) (hL : L ≤ 3072) (hlen : M 0 4000 = L) (h : xlawC_55 (fun j => M 0 (i + j)) M m2) (hk : m2 0 = M 0 → xEv (296, 18, [some (53, 0), some (2, 1), some (13, 310), some (0, xw32 (i + 6))], [], m2) z) : xEv (296, 1787, [some (53, 0), some (2, 1), some (13, 310), some (0, i)], [], M) z := by
  obtain ⟨r, h1, h2, e2⟩ := h
  have w1 := (xlaw_w 1 hi hj hL (by decide) (by decide)).1
  have b1 : 0 ≤ xw32 (i + 1) ∧ xw32 (i + 1) < M 0 4000 := by rw [hlen]; exact (xlaw_w 1 hi hj hL (by decide) (by decide)).2
  have d1 := b1
  have w2 := (xlaw_w 2 hi hj hL (by decide) (by decide)).1
  have b2 : 0 ≤ xw32 (i + 2) ∧ xw32 (i + 2) < M 0 4000 := by rw [hlen]; exact (xlaw_w 2 hi hj hL (by decide) (by decide)).2
  have d2 := b2
  have h1 : fD_sleep 1 (M 0 (xw32 (i + 1))) (M 0 (xw32 (i + 2))) M = some r := by simp only [w1, w2]; exact h1
  have h2 : fQ_sleep 310 (M 0 (xw32 (i + 1))) (M 0 (xw32 (i + 2))) M = some (r, m2) := by simp only [w1, w2]; exact h2
  refine xEvG_n xml xfetch 11 (y := (296, 1798, [some (53, 0), some (2, 1), some (13, 310), some (0, i)], [(0, (M 0 (xw32 (i + 2)))), (0, (M 0 (xw32 (i + 1)))), (2, 1)], M)) rfl ⟨b1, b2, trivial⟩ ?_
  refine xEvG_call xml xfetch (q := (some (0, r), M)) rfl (hD_sleep 1 (M 0 (xw32 (i + 1))) (M 0 (xw32 (i + 2))) M _ h1) ?_
  show xEv (296, 1801, [some (53, 0), some (2, 1), some (13, 310), some (0, i)], [(0, r)], M) _
  refine xEvG_n xml xfetch 11 (y := (296, 1812, [some (53, 0), some (2, 1), some (13, 310), some (0, i)], [(0, (M 0 (xw32 (i + 2)))), (0, (M 0 (xw32 (i + 1)))), (13, 310), (0, r)], M)) rfl ⟨b1, b2, trivial⟩ ?_
  refine xEvG_call xml xfetch (q := (some (0, r), m2)) rfl (hQ_sleep 310 (M 0 (xw32 (i + 1))) (M 0 (xw32 (i + 2))) M _ h2) ?_
  show xEv (296, 1815, [some (53, 0), some (2, 1), some (13, 310), some (0, i)], [(0, r), (0, r)], m2) _
  refine xEvG_n xml xfetch 1 (y := (296, if r = r then 2210 else 1818, [some (53, 0), some (2, 1), some (13, 310), some (0, i)], [], m2)) rfl trivial ?_
  refine xEvG_br xml xfetch (fun _ => ?_) (fun c_ => absurd rfl c_)
  refine xEvG_n xml xfetch 2 (y := (296, 18, [some (53, 0), some (2, 1), some (13, 310), some (0, (xw32 (i + 6)))], [], m2)) rfl trivial ?_
  exact hk e2
def xlawC_56 (a : Int → Int) (M m2 : xM) : Prop := ∃ r : Int, fD_asleep 1 (a 1) M = some r ∧ fQ_asleep 310 (a 1) M = some (r, m2) ∧ m2 0 = M 0
theorem xlawS_56 {a : Int → Int} {M m2 : xM} (h : xlawC_56 a M m2) : m2 0 = M 0 := by
  obtain ⟨r, h1, h2, e2⟩ := h
  exact e2
theorem xlaw_56 {i L : Int} {M m2 : xM} {z : Option xV × xM} (hi : 0 ≤ i) (hj : i + 6 ≤ L) (hL : L ≤ 3072) (hlen : M 0 4000 = L) (h : xlawC_56 (fun j => M 0 (i + j)) M m2) (hk : m2 0 = M 0 → xEv (296, 18, [some (53, 0), some (2, 1), some (13, 310), some (0, xw32 (i + 6))], [], m2) z) : xEv (296, 1820, [some (53, 0), some (2, 1), some (13, 310), some (0, i)], [], M) z := by
  obtain ⟨r, h1, h2, e2⟩ := h
  have w1 := (xlaw_w 1 hi hj hL (by decide) (by decide)).1
  have b1 : 0 ≤ xw32 (i + 1) ∧ xw32 (i + 1) < M 0 4000 := by rw [hlen]; exact (xlaw_w 1 hi hj hL (by decide) (by decide)).2
  have d1 := b1
  have h1 : fD_asleep 1 (M 0 (xw32 (i + 1))) M = some r := by simp only [w1]; exact h1
  have h2 : fQ_asleep 310 (M 0 (xw32 (i + 1))) M = some (r, m2) := by simp only [w1]; exact h2
  refine xEvG_n xml xfetch 6 (y := (296, 1826, [some (53, 0), some (2, 1), some (13, 310), some (0, i)], [(0, (M 0 (xw32 (i + 1)))), (2, 1)], M)) rfl ⟨b1, trivial⟩ ?_
  refine xEvG_call xml xfetch (q := (some (0, r), M)) rfl (hD_asleep 1 (M 0 (xw32 (i + 1))) M _ h1) ?_
  show xEv (296, 1829, [some (53, 0), some (2, 1), some (13, 310), some (0, i)], [(0, r)], M) _
  refine xEvG_n xml xfetch 6 (y := (296, 1835, [some (53, 0), some (2, 1), some (13, 310), some (0, i)], [(0, (M 0 (xw32 (i + 1)))), (13, 310), (0, r)], M)) rfl ⟨b1, trivial⟩ ?_
  refine xEvG_call xml xfetch (q := (some (0, r), m2)) rfl (hQ_asleep 310 (M 0 (xw32 (i + 1))) M _ h2) ?_
  show xEv (296, 1838, [some (53, 0), some (2, 1), some (13, 310), some (0, i)], [(0, r), (0, r)], m2) _
  refine xEvG_n xml xfetch 1 (y := (296, if r = r then 2210 else 1841, [some (53, 0), some (2, 1), some (13, 310), some (0, i)], [], m2)) rfl trivial ?_
  refine xEvG_br xml xfetch (fun _ => ?_) (fun c_ => absurd rfl c_)
  refine xEvG_n xml xfetch 2 (y := (296, 18, [some (53, 0), some (2, 1), some (13, 310), some (0, (xw32 (i + 6)))], [], m2)) rfl trivial ?_
  exact hk e2
def xlawC_57 (a : Int → Int) (M m2 : xM) : Prop := ∃ r : Int, fD_pairs 1 (a 1) M = some r ∧ fQ_pairs 310 (a 1) M = some (r, m2) ∧ m2 0 = M 0
theorem xlawS_57 {a : Int → Int} {M m2 : xM} (h : xlawC_57 a M m2) : m2 0 = M 0 := by
  obtain ⟨r, h1, h2, e2⟩ := h
  exact e2
theorem xlaw_57 {i L : Int} {M m2 : xM} {z : Option xV × xM} (hi : 0 ≤ i) (hj : i + 6 ≤ L) (hL : L ≤ 3072) (hlen : M 0 4000 = L) (h : xlawC_57 (fun j => M 0 (i + j)) M m2) (hk : m2 0 = M 0 → xEv (296, 18, [some (53, 0), some (2, 1), some (13, 310), some (0, xw32 (i + 6))], [], m2) z) : xEv (296, 1843, [some (53, 0), some (2, 1), some (13, 310), some (0, i)], [], M) z := by
  obtain ⟨r, h1, h2, e2⟩ := h
  have w1 := (xlaw_w 1 hi hj hL (by decide) (by decide)).1
  have b1 : 0 ≤ xw32 (i + 1) ∧ xw32 (i + 1) < M 0 4000 := by rw [hlen]; exact (xlaw_w 1 hi hj hL (by decide) (by decide)).2
  have d1 := b1
  have h1 : fD_pairs 1 (M 0 (xw32 (i + 1))) M = some r := by simp only [w1]; exact h1
  have h2 : fQ_pairs 310 (M 0 (xw32 (i + 1))) M = some (r, m2) := by simp only [w1]; exact h2
  refine xEvG_n xml xfetch 6 (y := (296, 1849, [some (53, 0), some (2, 1), some (13, 310), some (0, i)], [(0, (M 0 (xw32 (i + 1)))), (2, 1)], M)) rfl ⟨b1, trivial⟩ ?_
  refine xEvG_call xml xfetch (q := (some (0, r), M)) rfl (hD_pairs 1 (M 0 (xw32 (i + 1))) M _ h1) ?_
  show xEv (296, 1852, [some (53, 0), some (2, 1), some (13, 310), some (0, i)], [(0, r)], M) _
  refine xEvG_n xml xfetch 6 (y := (296, 1858, [some (53, 0), some (2, 1), some (13, 310), some (0, i)], [(0, (M 0 (xw32 (i + 1)))), (13, 310), (0, r)], M)) rfl ⟨b1, trivial⟩ ?_
  refine xEvG_call xml xfetch (q := (some (0, r), m2)) rfl (hQ_pairs 310 (M 0 (xw32 (i + 1))) M _ h2) ?_
  show xEv (296, 1861, [some (53, 0), some (2, 1), some (13, 310), some (0, i)], [(0, r), (0, r)], m2) _
  refine xEvG_n xml xfetch 1 (y := (296, if r = r then 2210 else 1864, [some (53, 0), some (2, 1), some (13, 310), some (0, i)], [], m2)) rfl trivial ?_
  refine xEvG_br xml xfetch (fun _ => ?_) (fun c_ => absurd rfl c_)
  refine xEvG_n xml xfetch 2 (y := (296, 18, [some (53, 0), some (2, 1), some (13, 310), some (0, (xw32 (i + 6)))], [], m2)) rfl trivial ?_
  exact hk e2
def xlawC_58 (a : Int → Int) (M m2 : xM) : Prop := ∃ r : Int, ∃ m1 : xM, fD_drawn 1 (a 1) (a 2) (a 3) M = some (r, m1) ∧ m1 0 = M 0 ∧ fQ_drawn 310 (a 1) (a 2) (a 3) m1 = some (r, m2) ∧ m2 0 = M 0
theorem xlawS_58 {a : Int → Int} {M m2 : xM} (h : xlawC_58 a M m2) : m2 0 = M 0 := by
  obtain ⟨r, m1, h1, e1, h2, e2⟩ := h
  exact e2
theorem xlaw_58 {i L : Int} {M m2 : xM} {z : Option xV × xM} (hi : 0 ≤ i) (hj : i + 6 ≤ L) (hL : L ≤ 3072) (hlen : M 0 4000 = L) (h : xlawC_58 (fun j => M 0 (i + j)) M m2) (hk : m2 0 = M 0 → xEv (296, 18, [some (53, 0), some (2, 1), some (13, 310), some (0, xw32 (i + 6))], [], m2) z) : xEv (296, 1866, [some (53, 0), some (2, 1), some (13, 310), some (0, i)], [], M) z := by
  obtain ⟨r, m1, h1, e1, h2, e2⟩ := h
  have w1 := (xlaw_w 1 hi hj hL (by decide) (by decide)).1
  have b1 : 0 ≤ xw32 (i + 1) ∧ xw32 (i + 1) < M 0 4000 := by rw [hlen]; exact (xlaw_w 1 hi hj hL (by decide) (by decide)).2
  have d1 : 0 ≤ xw32 (i + 1) ∧ xw32 (i + 1) < m1 0 4000 := by rw [e1]; exact b1
  have w2 := (xlaw_w 2 hi hj hL (by decide) (by decide)).1
  have b2 : 0 ≤ xw32 (i + 2) ∧ xw32 (i + 2) < M 0 4000 := by rw [hlen]; exact (xlaw_w 2 hi hj hL (by decide) (by decide)).2
  have d2 : 0 ≤ xw32 (i + 2) ∧ xw32 (i + 2) < m1 0 4000 := by rw [e1]; exact b2
  have w3 := (xlaw_w 3 hi hj hL (by decide) (by decide)).1
  have b3 : 0 ≤ xw32 (i + 3) ∧ xw32 (i + 3) < M 0 4000 := by rw [hlen]; exact (xlaw_w 3 hi hj hL (by decide) (by decide)).2
  have d3 : 0 ≤ xw32 (i + 3) ∧ xw32 (i + 3) < m1 0 4000 := by rw [e1]; exact b3
  have h1 : fD_drawn 1 (M 0 (xw32 (i + 1))) (M 0 (xw32 (i + 2))) (M 0 (xw32 (i + 3))) M = some (r, m1) := by simp only [w1, w2, w3]; exact h1
  have h2 : fQ_drawn 310 (m1 0 (xw32 (i + 1))) (m1 0 (xw32 (i + 2))) (m1 0 (xw32 (i + 3))) m1 = some (r, m2) := by simp only [e1, w1, w2, w3]; exact h2
  refine xEvG_n xml xfetch 16 (y := (296, 1882, [some (53, 0), some (2, 1), some (13, 310), some (0, i)], [(0, (M 0 (xw32 (i + 3)))), (0, (M 0 (xw32 (i + 2)))), (0, (M 0 (xw32 (i + 1)))), (2, 1)], M)) rfl ⟨b1, b2, b3, trivial⟩ ?_
  refine xEvG_call xml xfetch (q := (some (0, r), m1)) rfl (hD_drawn 1 (M 0 (xw32 (i + 1))) (M 0 (xw32 (i + 2))) (M 0 (xw32 (i + 3))) M _ h1) ?_
  show xEv (296, 1885, [some (53, 0), some (2, 1), some (13, 310), some (0, i)], [(0, r)], m1) _
  refine xEvG_n xml xfetch 16 (y := (296, 1901, [some (53, 0), some (2, 1), some (13, 310), some (0, i)], [(0, (m1 0 (xw32 (i + 3)))), (0, (m1 0 (xw32 (i + 2)))), (0, (m1 0 (xw32 (i + 1)))), (13, 310), (0, r)], m1)) rfl ⟨d1, d2, d3, trivial⟩ ?_
  refine xEvG_call xml xfetch (q := (some (0, r), m2)) rfl (hQ_drawn 310 (m1 0 (xw32 (i + 1))) (m1 0 (xw32 (i + 2))) (m1 0 (xw32 (i + 3))) m1 _ h2) ?_
  show xEv (296, 1904, [some (53, 0), some (2, 1), some (13, 310), some (0, i)], [(0, r), (0, r)], m2) _
  refine xEvG_n xml xfetch 1 (y := (296, if r = r then 2210 else 1907, [some (53, 0), some (2, 1), some (13, 310), some (0, i)], [], m2)) rfl trivial ?_
  refine xEvG_br xml xfetch (fun _ => ?_) (fun c_ => absurd rfl c_)
  refine xEvG_n xml xfetch 2 (y := (296, 18, [some (53, 0), some (2, 1), some (13, 310), some (0, (xw32 (i + 6)))], [], m2)) rfl trivial ?_
  exact hk e2
def xlawC_59 (a : Int → Int) (M m2 : xM) : Prop := ∃ r : Int, ∃ m1 : xM, fD_chance 1 (a 1) (a 2) (a 3) (a 4) M = some (r, m1) ∧ m1 0 = M 0 ∧ fQ_chance 310 (a 1) (a 2) (a 3) (a 4) m1 = some (r, m2) ∧ m2 0 = M 0
theorem xlawS_59 {a : Int → Int} {M m2 : xM} (h : xlawC_59 a M m2) : m2 0 = M 0 := by
  obtain ⟨r, m1, h1, e1, h2, e2⟩ := h
  exact e2
theorem xlaw_59 {i L : Int} {M m2 : xM} {z : Option xV × xM} (hi : 0 ≤ i) (hj : i + 6 ≤ L) (hL : L ≤ 3072) (hlen : M 0 4000 = L) (h : xlawC_59 (fun j => M 0 (i + j)) M m2) (hk : m2 0 = M 0 → xEv (296, 18, [some (53, 0), some (2, 1), some (13, 310), some (0, xw32 (i + 6))], [], m2) z) : xEv (296, 1909, [some (53, 0), some (2, 1), some (13, 310), some (0, i)], [], M) z := by
  obtain ⟨r, m1, h1, e1, h2, e2⟩ := h
  have w1 := (xlaw_w 1 hi hj hL (by decide) (by decide)).1
  have b1 : 0 ≤ xw32 (i + 1) ∧ xw32 (i + 1) < M 0 4000 := by rw [hlen]; exact (xlaw_w 1 hi hj hL (by decide) (by decide)).2
  have d1 : 0 ≤ xw32 (i + 1) ∧ xw32 (i + 1) < m1 0 4000 := by rw [e1]; exact b1
  have w2 := (xlaw_w 2 hi hj hL (by decide) (by decide)).1
  have b2 : 0 ≤ xw32 (i + 2) ∧ xw32 (i + 2) < M 0 4000 := by rw [hlen]; exact (xlaw_w 2 hi hj hL (by decide) (by decide)).2
  have d2 : 0 ≤ xw32 (i + 2) ∧ xw32 (i + 2) < m1 0 4000 := by rw [e1]; exact b2
  have w3 := (xlaw_w 3 hi hj hL (by decide) (by decide)).1
  have b3 : 0 ≤ xw32 (i + 3) ∧ xw32 (i + 3) < M 0 4000 := by rw [hlen]; exact (xlaw_w 3 hi hj hL (by decide) (by decide)).2
  have d3 : 0 ≤ xw32 (i + 3) ∧ xw32 (i + 3) < m1 0 4000 := by rw [e1]; exact b3
  have w4 := (xlaw_w 4 hi hj hL (by decide) (by decide)).1
  have b4 : 0 ≤ xw32 (i + 4) ∧ xw32 (i + 4) < M 0 4000 := by rw [hlen]; exact (xlaw_w 4 hi hj hL (by decide) (by decide)).2
  have d4 : 0 ≤ xw32 (i + 4) ∧ xw32 (i + 4) < m1 0 4000 := by rw [e1]; exact b4
  have h1 : fD_chance 1 (M 0 (xw32 (i + 1))) (M 0 (xw32 (i + 2))) (M 0 (xw32 (i + 3))) (M 0 (xw32 (i + 4))) M = some (r, m1) := by simp only [w1, w2, w3, w4]; exact h1
  have h2 : fQ_chance 310 (m1 0 (xw32 (i + 1))) (m1 0 (xw32 (i + 2))) (m1 0 (xw32 (i + 3))) (m1 0 (xw32 (i + 4))) m1 = some (r, m2) := by simp only [e1, w1, w2, w3, w4]; exact h2
  refine xEvG_n xml xfetch 21 (y := (296, 1930, [some (53, 0), some (2, 1), some (13, 310), some (0, i)], [(0, (M 0 (xw32 (i + 4)))), (0, (M 0 (xw32 (i + 3)))), (0, (M 0 (xw32 (i + 2)))), (0, (M 0 (xw32 (i + 1)))), (2, 1)], M)) rfl ⟨b1, b2, b3, b4, trivial⟩ ?_
  refine xEvG_call xml xfetch (q := (some (0, r), m1)) rfl (hD_chance 1 (M 0 (xw32 (i + 1))) (M 0 (xw32 (i + 2))) (M 0 (xw32 (i + 3))) (M 0 (xw32 (i + 4))) M _ h1) ?_
  show xEv (296, 1933, [some (53, 0), some (2, 1), some (13, 310), some (0, i)], [(0, r)], m1) _
  refine xEvG_n xml xfetch 21 (y := (296, 1954, [some (53, 0), some (2, 1), some (13, 310), some (0, i)], [(0, (m1 0 (xw32 (i + 4)))), (0, (m1 0 (xw32 (i + 3)))), (0, (m1 0 (xw32 (i + 2)))), (0, (m1 0 (xw32 (i + 1)))), (13, 310), (0, r)], m1)) rfl ⟨d1, d2, d3, d4, trivial⟩ ?_
  refine xEvG_call xml xfetch (q := (some (0, r), m2)) rfl (hQ_chance 310 (m1 0 (xw32 (i + 1))) (m1 0 (xw32 (i + 2))) (m1 0 (xw32 (i + 3))) (m1 0 (xw32 (i + 4))) m1 _ h2) ?_
  show xEv (296, 1957, [some (53, 0), some (2, 1), some (13, 310), some (0, i)], [(0, r), (0, r)], m2) _
  refine xEvG_n xml xfetch 1 (y := (296, if r = r then 2210 else 1960, [some (53, 0), some (2, 1), some (13, 310), some (0, i)], [], m2)) rfl trivial ?_
  refine xEvG_br xml xfetch (fun _ => ?_) (fun c_ => absurd rfl c_)
  refine xEvG_n xml xfetch 2 (y := (296, 18, [some (53, 0), some (2, 1), some (13, 310), some (0, (xw32 (i + 6)))], [], m2)) rfl trivial ?_
  exact hk e2
def xlawC_60 (a : Int → Int) (M m2 : xM) : Prop := ∃ r : Int, fD_count 1 (a 1) M = some r ∧ fQ_count 310 (a 1) M = some (r, m2) ∧ m2 0 = M 0
theorem xlawS_60 {a : Int → Int} {M m2 : xM} (h : xlawC_60 a M m2) : m2 0 = M 0 := by
  obtain ⟨r, h1, h2, e2⟩ := h
  exact e2
theorem xlaw_60 {i L : Int} {M m2 : xM} {z : Option xV × xM} (hi : 0 ≤ i) (hj : i + 6 ≤ L) (hL : L ≤ 3072) (hlen : M 0 4000 = L) (h : xlawC_60 (fun j => M 0 (i + j)) M m2) (hk : m2 0 = M 0 → xEv (296, 18, [some (53, 0), some (2, 1), some (13, 310), some (0, xw32 (i + 6))], [], m2) z) : xEv (296, 1962, [some (53, 0), some (2, 1), some (13, 310), some (0, i)], [], M) z := by
  obtain ⟨r, h1, h2, e2⟩ := h
  have w1 := (xlaw_w 1 hi hj hL (by decide) (by decide)).1
  have b1 : 0 ≤ xw32 (i + 1) ∧ xw32 (i + 1) < M 0 4000 := by rw [hlen]; exact (xlaw_w 1 hi hj hL (by decide) (by decide)).2
  have d1 := b1
  have h1 : fD_count 1 (M 0 (xw32 (i + 1))) M = some r := by simp only [w1]; exact h1
  have h2 : fQ_count 310 (M 0 (xw32 (i + 1))) M = some (r, m2) := by simp only [w1]; exact h2
  refine xEvG_n xml xfetch 6 (y := (296, 1968, [some (53, 0), some (2, 1), some (13, 310), some (0, i)], [(0, (M 0 (xw32 (i + 1)))), (2, 1)], M)) rfl ⟨b1, trivial⟩ ?_
  refine xEvG_call xml xfetch (q := (some (0, r), M)) rfl (hD_count 1 (M 0 (xw32 (i + 1))) M _ h1) ?_
  show xEv (296, 1971, [some (53, 0), some (2, 1), some (13, 310), some (0, i)], [(0, r)], M) _
  refine xEvG_n xml xfetch 6 (y := (296, 1977, [some (53, 0), some (2, 1), some (13, 310), some (0, i)], [(0, (M 0 (xw32 (i + 1)))), (13, 310), (0, r)], M)) rfl ⟨b1, trivial⟩ ?_
  refine xEvG_call xml xfetch (q := (some (0, r), m2)) rfl (hQ_count 310 (M 0 (xw32 (i + 1))) M _ h2) ?_
  show xEv (296, 1980, [some (53, 0), some (2, 1), some (13, 310), some (0, i)], [(0, r), (0, r)], m2) _
  refine xEvG_n xml xfetch 1 (y := (296, if r = r then 2210 else 1983, [some (53, 0), some (2, 1), some (13, 310), some (0, i)], [], m2)) rfl trivial ?_
  refine xEvG_br xml xfetch (fun _ => ?_) (fun c_ => absurd rfl c_)
  refine xEvG_n xml xfetch 2 (y := (296, 18, [some (53, 0), some (2, 1), some (13, 310), some (0, (xw32 (i + 6)))], [], m2)) rfl trivial ?_
  exact hk e2
def xlawC_61 (a : Int → Int) (M m2 : xM) : Prop := ∃ r : Int, ∃ m1 : xM, fD_keep 1 (a 1) M = some (r, m1) ∧ m1 0 = M 0 ∧ fQ_keep 310 (a 1) m1 = some (r, m2) ∧ m2 0 = M 0
theorem xlawS_61 {a : Int → Int} {M m2 : xM} (h : xlawC_61 a M m2) : m2 0 = M 0 := by
  obtain ⟨r, m1, h1, e1, h2, e2⟩ := h
  exact e2
theorem xlaw_61 {i L : Int} {M m2 : xM} {z : Option xV × xM} (hi : 0 ≤ i) (hj : i + 6 ≤ L) (hL : L ≤ 3072) (hlen : M 0 4000 = L) (h : xlawC_61 (fun j => M 0 (i + j)) M m2) (hk : m2 0 = M 0 → xEv (296, 18, [some (53, 0), some (2, 1), some (13, 310), some (0, xw32 (i + 6))], [], m2) z) : xEv (296, 1985, [some (53, 0), some (2, 1), some (13, 310), some (0, i)], [], M) z := by
  obtain ⟨r, m1, h1, e1, h2, e2⟩ := h
  have w1 := (xlaw_w 1 hi hj hL (by decide) (by decide)).1
  have b1 : 0 ≤ xw32 (i + 1) ∧ xw32 (i + 1) < M 0 4000 := by rw [hlen]; exact (xlaw_w 1 hi hj hL (by decide) (by decide)).2
  have d1 : 0 ≤ xw32 (i + 1) ∧ xw32 (i + 1) < m1 0 4000 := by rw [e1]; exact b1
  have h1 : fD_keep 1 (M 0 (xw32 (i + 1))) M = some (r, m1) := by simp only [w1]; exact h1
  have h2 : fQ_keep 310 (m1 0 (xw32 (i + 1))) m1 = some (r, m2) := by simp only [e1, w1]; exact h2
  refine xEvG_n xml xfetch 6 (y := (296, 1991, [some (53, 0), some (2, 1), some (13, 310), some (0, i)], [(0, (M 0 (xw32 (i + 1)))), (2, 1)], M)) rfl ⟨b1, trivial⟩ ?_
  refine xEvG_call xml xfetch (q := (some (0, r), m1)) rfl (hD_keep 1 (M 0 (xw32 (i + 1))) M _ h1) ?_
  show xEv (296, 1994, [some (53, 0), some (2, 1), some (13, 310), some (0, i)], [(0, r)], m1) _
  refine xEvG_n xml xfetch 6 (y := (296, 2000, [some (53, 0), some (2, 1), some (13, 310), some (0, i)], [(0, (m1 0 (xw32 (i + 1)))), (13, 310), (0, r)], m1)) rfl ⟨d1, trivial⟩ ?_
  refine xEvG_call xml xfetch (q := (some (0, r), m2)) rfl (hQ_keep 310 (m1 0 (xw32 (i + 1))) m1 _ h2) ?_
  show xEv (296, 2003, [some (53, 0), some (2, 1), some (13, 310), some (0, i)], [(0, r), (0, r)], m2) _
  refine xEvG_n xml xfetch 1 (y := (296, if r = r then 2210 else 2006, [some (53, 0), some (2, 1), some (13, 310), some (0, i)], [], m2)) rfl trivial ?_
  refine xEvG_br xml xfetch (fun _ => ?_) (fun c_ => absurd rfl c_)
  refine xEvG_n xml xfetch 2 (y := (296, 18, [some (53, 0), some (2, 1), some (13, 310), some (0, (xw32 (i + 6)))], [], m2)) rfl trivial ?_
  exact hk e2
def xlawC_62 (a : Int → Int) (M m2 : xM) : Prop := ∃ r : Int, ∃ m1 : xM, fD_back 1 (a 1) M = some (r, m1) ∧ m1 0 = M 0 ∧ fQ_back 310 (a 1) m1 = some (r, m2) ∧ m2 0 = M 0
theorem xlawS_62 {a : Int → Int} {M m2 : xM} (h : xlawC_62 a M m2) : m2 0 = M 0 := by
  obtain ⟨r, m1, h1, e1, h2, e2⟩ := h
  exact e2
theorem xlaw_62 {i L : Int} {M m2 : xM} {z : Option xV × xM} (hi : 0 ≤ i) (hj : i + 6 ≤ L) (hL : L ≤ 3072) (hlen : M 0 4000 = L) (h : xlawC_62 (fun j => M 0 (i + j)) M m2) (hk : m2 0 = M 0 → xEv (296, 18, [some (53, 0), some (2, 1), some (13, 310), some (0, xw32 (i + 6))], [], m2) z) : xEv (296, 2008, [some (53, 0), some (2, 1), some (13, 310), some (0, i)], [], M) z := by
  obtain ⟨r, m1, h1, e1, h2, e2⟩ := h
  have w1 := (xlaw_w 1 hi hj hL (by decide) (by decide)).1
  have b1 : 0 ≤ xw32 (i + 1) ∧ xw32 (i + 1) < M 0 4000 := by rw [hlen]; exact (xlaw_w 1 hi hj hL (by decide) (by decide)).2
  have d1 : 0 ≤ xw32 (i + 1) ∧ xw32 (i + 1) < m1 0 4000 := by rw [e1]; exact b1
  have h1 : fD_back 1 (M 0 (xw32 (i + 1))) M = some (r, m1) := by simp only [w1]; exact h1
  have h2 : fQ_back 310 (m1 0 (xw32 (i + 1))) m1 = some (r, m2) := by simp only [e1, w1]; exact h2
  refine xEvG_n xml xfetch 6 (y := (296, 2014, [some (53, 0), some (2, 1), some (13, 310), some (0, i)], [(0, (M 0 (xw32 (i + 1)))), (2, 1)], M)) rfl ⟨b1, trivial⟩ ?_
  refine xEvG_call xml xfetch (q := (some (0, r), m1)) rfl (hD_back 1 (M 0 (xw32 (i + 1))) M _ h1) ?_
  show xEv (296, 2017, [some (53, 0), some (2, 1), some (13, 310), some (0, i)], [(0, r)], m1) _
  refine xEvG_n xml xfetch 6 (y := (296, 2023, [some (53, 0), some (2, 1), some (13, 310), some (0, i)], [(0, (m1 0 (xw32 (i + 1)))), (13, 310), (0, r)], m1)) rfl ⟨d1, trivial⟩ ?_
  refine xEvG_call xml xfetch (q := (some (0, r), m2)) rfl (hQ_back 310 (m1 0 (xw32 (i + 1))) m1 _ h2) ?_
  show xEv (296, 2026, [some (53, 0), some (2, 1), some (13, 310), some (0, i)], [(0, r), (0, r)], m2) _
  refine xEvG_n xml xfetch 1 (y := (296, if r = r then 2210 else 2029, [some (53, 0), some (2, 1), some (13, 310), some (0, i)], [], m2)) rfl trivial ?_
  refine xEvG_br xml xfetch (fun _ => ?_) (fun c_ => absurd rfl c_)
  refine xEvG_n xml xfetch 2 (y := (296, 18, [some (53, 0), some (2, 1), some (13, 310), some (0, (xw32 (i + 6)))], [], m2)) rfl trivial ?_
  exact hk e2
def xlawC_63 (a : Int → Int) (M m2 : xM) : Prop := ∃ r : Int, ∃ m1 : xM, fD_row 1 (a 1) (a 2) (a 3) M = some (r, m1) ∧ m1 0 = M 0 ∧ fQ_row 310 (a 1) (a 2) (a 3) m1 = some (r, m2) ∧ m2 0 = M 0
theorem xlawS_63 {a : Int → Int} {M m2 : xM} (h : xlawC_63 a M m2) : m2 0 = M 0 := by
  obtain ⟨r, m1, h1, e1, h2, e2⟩ := h
  exact e2
theorem xlaw_63 {i L : Int} {M m2 : xM} {z : Option xV × xM} (hi : 0 ≤ i) (hj : i + 6 ≤ L) (hL : L ≤ 3072) (hlen : M 0 4000 = L) (h : xlawC_63 (fun j => M 0 (i + j)) M m2) (hk : m2 0 = M 0 → xEv (296, 18, [some (53, 0), some (2, 1), some (13, 310), some (0, xw32 (i + 6))], [], m2) z) : xEv (296, 2031, [some (53, 0), some (2, 1), some (13, 310), some (0, i)], [], M) z := by
  obtain ⟨r, m1, h1, e1, h2, e2⟩ := h
  have w1 := (xlaw_w 1 hi hj hL (by decide) (by decide)).1
  have b1 : 0 ≤ xw32 (i + 1) ∧ xw32 (i + 1) < M 0 4000 := by rw [hlen]; exact (xlaw_w 1 hi hj hL (by decide) (by decide)).2
  have d1 : 0 ≤ xw32 (i + 1) ∧ xw32 (i + 1) < m1 0 4000 := by rw [e1]; exact b1
  have w2 := (xlaw_w 2 hi hj hL (by decide) (by decide)).1
  have b2 : 0 ≤ xw32 (i + 2) ∧ xw32 (i + 2) < M 0 4000 := by rw [hlen]; exact (xlaw_w 2 hi hj hL (by decide) (by decide)).2
  have d2 : 0 ≤ xw32 (i + 2) ∧ xw32 (i + 2) < m1 0 4000 := by rw [e1]; exact b2
  have w3 := (xlaw_w 3 hi hj hL (by decide) (by decide)).1
  have b3 : 0 ≤ xw32 (i + 3) ∧ xw32 (i + 3) < M 0 4000 := by rw [hlen]; exact (xlaw_w 3 hi hj hL (by decide) (by decide)).2
  have d3 : 0 ≤ xw32 (i + 3) ∧ xw32 (i + 3) < m1 0 4000 := by rw [e1]; exact b3
  have h1 : fD_row 1 (M 0 (xw32 (i + 1))) (M 0 (xw32 (i + 2))) (M 0 (xw32 (i + 3))) M = some (r, m1) := by simp only [w1, w2, w3]; exact h1
  have h2 : fQ_row 310 (m1 0 (xw32 (i + 1))) (m1 0 (xw32 (i + 2))) (m1 0 (xw32 (i + 3))) m1 = some (r, m2) := by simp only [e1, w1, w2, w3]; exact h2
  refine xEvG_n xml xfetch 16 (y := (296, 2047, [some (53, 0), some (2, 1), some (13, 310), some (0, i)], [(0, (M 0 (xw32 (i + 3)))), (0, (M 0 (xw32 (i + 2)))), (0, (M 0 (xw32 (i + 1)))), (2, 1)], M)) rfl ⟨b1, b2, b3, trivial⟩ ?_
  refine xEvG_call xml xfetch (q := (some (0, r), m1)) rfl (hD_row 1 (M 0 (xw32 (i + 1))) (M 0 (xw32 (i + 2))) (M 0 (xw32 (i + 3))) M _ h1) ?_
  show xEv (296, 2050, [some (53, 0), some (2, 1), some (13, 310), some (0, i)], [(0, r)], m1) _
  refine xEvG_n xml xfetch 16 (y := (296, 2066, [some (53, 0), some (2, 1), some (13, 310), some (0, i)], [(0, (m1 0 (xw32 (i + 3)))), (0, (m1 0 (xw32 (i + 2)))), (0, (m1 0 (xw32 (i + 1)))), (13, 310), (0, r)], m1)) rfl ⟨d1, d2, d3, trivial⟩ ?_
  refine xEvG_call xml xfetch (q := (some (0, r), m2)) rfl (hQ_row 310 (m1 0 (xw32 (i + 1))) (m1 0 (xw32 (i + 2))) (m1 0 (xw32 (i + 3))) m1 _ h2) ?_
  show xEv (296, 2069, [some (53, 0), some (2, 1), some (13, 310), some (0, i)], [(0, r), (0, r)], m2) _
  refine xEvG_n xml xfetch 1 (y := (296, if r = r then 2210 else 2072, [some (53, 0), some (2, 1), some (13, 310), some (0, i)], [], m2)) rfl trivial ?_
  refine xEvG_br xml xfetch (fun _ => ?_) (fun c_ => absurd rfl c_)
  refine xEvG_n xml xfetch 2 (y := (296, 18, [some (53, 0), some (2, 1), some (13, 310), some (0, (xw32 (i + 6)))], [], m2)) rfl trivial ?_
  exact hk e2
def xlawC_64 (a : Int → Int) (M m2 : xM) : Prop := ∃ r : Int, ∃ m1 : xM, fD_write 1 (a 1) (a 2) (xorL (xshlL (a 3) 32) (xandL (a 4) 4294967295)) M = some (r, m1) ∧ m1 0 = M 0 ∧ fQ_write 310 (a 1) (a 2) (xorL (xshlL (a 3) 32) (xandL (a 4) 4294967295)) m1 = some (r, m2) ∧ m2 0 = M 0
theorem xlawS_64 {a : Int → Int} {M m2 : xM} (h : xlawC_64 a M m2) : m2 0 = M 0 := by
  obtain ⟨r, m1, h1, e1, h2, e2⟩ := h
  exact e2
theorem xlaw_64 {i L : Int} {M m2 : xM} {z : Option xV × xM} (hi : 0 ≤ i) (hj : i + 6 ≤ L) (hL : L ≤ 3072) (hlen : M 0 4000 = L) (h : xlawC_64 (fun j => M 0 (i + j)) M m2) (hk : m2 0 = M 0 → xEv (296, 18, [some (53, 0), some (2, 1), some (13, 310), some (0, xw32 (i + 6))], [], m2) z) : xEv (296, 2074, [some (53, 0), some (2, 1), some (13, 310), some (0, i)], [], M) z := by
  obtain ⟨r, m1, h1, e1, h2, e2⟩ := h
  have w1 := (xlaw_w 1 hi hj hL (by decide) (by decide)).1
  have b1 : 0 ≤ xw32 (i + 1) ∧ xw32 (i + 1) < M 0 4000 := by rw [hlen]; exact (xlaw_w 1 hi hj hL (by decide) (by decide)).2
  have d1 : 0 ≤ xw32 (i + 1) ∧ xw32 (i + 1) < m1 0 4000 := by rw [e1]; exact b1
  have w2 := (xlaw_w 2 hi hj hL (by decide) (by decide)).1
  have b2 : 0 ≤ xw32 (i + 2) ∧ xw32 (i + 2) < M 0 4000 := by rw [hlen]; exact (xlaw_w 2 hi hj hL (by decide) (by decide)).2
  have d2 : 0 ≤ xw32 (i + 2) ∧ xw32 (i + 2) < m1 0 4000 := by rw [e1]; exact b2
  have w3 := (xlaw_w 3 hi hj hL (by decide) (by decide)).1
  have b3 : 0 ≤ xw32 (i + 3) ∧ xw32 (i + 3) < M 0 4000 := by rw [hlen]; exact (xlaw_w 3 hi hj hL (by decide) (by decide)).2
  have d3 : 0 ≤ xw32 (i + 3) ∧ xw32 (i + 3) < m1 0 4000 := by rw [e1]; exact b3
  have w4 := (xlaw_w 4 hi hj hL (by decide) (by decide)).1
  have b4 : 0 ≤ xw32 (i + 4) ∧ xw32 (i + 4) < M 0 4000 := by rw [hlen]; exact (xlaw_w 4 hi hj hL (by decide) (by decide)).2
  have d4 : 0 ≤ xw32 (i + 4) ∧ xw32 (i + 4) < m1 0 4000 := by rw [e1]; exact b4
  have h1 : fD_write 1 (M 0 (xw32 (i + 1))) (M 0 (xw32 (i + 2))) (xorL (xshlL (M 0 (xw32 (i + 3))) 32) (xandL (M 0 (xw32 (i + 4))) 4294967295)) M = some (r, m1) := by simp only [w1, w2, w3, w4]; exact h1
  have h2 : fQ_write 310 (m1 0 (xw32 (i + 1))) (m1 0 (xw32 (i + 2))) (xorL (xshlL (m1 0 (xw32 (i + 3))) 32) (xandL (m1 0 (xw32 (i + 4))) 4294967295)) m1 = some (r, m2) := by simp only [e1, w1, w2, w3, w4]; exact h2
  refine xEvG_n xml xfetch 28 (y := (296, 2105, [some (53, 0), some (2, 1), some (13, 310), some (0, i)], [(1, (xorL (xshlL (M 0 (xw32 (i + 3))) 32) (xandL (M 0 (xw32 (i + 4))) 4294967295))), (0, (M 0 (xw32 (i + 2)))), (0, (M 0 (xw32 (i + 1)))), (2, 1)], M)) rfl ⟨b1, b2, b3, b4, trivial⟩ ?_
  refine xEvG_call xml xfetch (q := (some (0, r), m1)) rfl (hD_write 1 (M 0 (xw32 (i + 1))) (M 0 (xw32 (i + 2))) (xorL (xshlL (M 0 (xw32 (i + 3))) 32) (xandL (M 0 (xw32 (i + 4))) 4294967295)) M _ h1) ?_
  show xEv (296, 2108, [some (53, 0), some (2, 1), some (13, 310), some (0, i)], [(0, r)], m1) _
  refine xEvG_n xml xfetch 28 (y := (296, 2139, [some (53, 0), some (2, 1), some (13, 310), some (0, i)], [(1, (xorL (xshlL (m1 0 (xw32 (i + 3))) 32) (xandL (m1 0 (xw32 (i + 4))) 4294967295))), (0, (m1 0 (xw32 (i + 2)))), (0, (m1 0 (xw32 (i + 1)))), (13, 310), (0, r)], m1)) rfl ⟨d1, d2, d3, d4, trivial⟩ ?_
  refine xEvG_call xml xfetch (q := (some (0, r), m2)) rfl (hQ_write 310 (m1 0 (xw32 (i + 1))) (m1 0 (xw32 (i + 2))) (xorL (xshlL (m1 0 (xw32 (i + 3))) 32) (xandL (m1 0 (xw32 (i + 4))) 4294967295)) m1 _ h2) ?_
  show xEv (296, 2142, [some (53, 0), some (2, 1), some (13, 310), some (0, i)], [(0, r), (0, r)], m2) _
  refine xEvG_n xml xfetch 1 (y := (296, if r = r then 2210 else 2145, [some (53, 0), some (2, 1), some (13, 310), some (0, i)], [], m2)) rfl trivial ?_
  refine xEvG_br xml xfetch (fun _ => ?_) (fun c_ => absurd rfl c_)
  refine xEvG_n xml xfetch 2 (y := (296, 18, [some (53, 0), some (2, 1), some (13, 310), some (0, (xw32 (i + 6)))], [], m2)) rfl trivial ?_
  exact hk e2
def xlawC_65 (a : Int → Int) (M m2 : xM) : Prop := ∃ r : Int, ∃ m1 : xM, fD_paste 1 (a 1) (a 2) (a 3) (a 4) (a 5) M = some (r, m1) ∧ m1 0 = M 0 ∧ fQ_paste 310 (a 1) (a 2) (a 3) (a 4) (a 5) m1 = some (r, m2) ∧ m2 0 = M 0
theorem xlawS_65 {a : Int → Int} {M m2 : xM} (h : xlawC_65 a M m2) : m2 0 = M 0 := by
  obtain ⟨r, m1, h1, e1, h2, e2⟩ := h
  exact e2
theorem xlaw_65 {i L : Int} {M m2 : xM} {z : Option xV × xM} (hi : 0 ≤ i) (hj : i + 6 ≤ L) (hL : L ≤ 3072) (hlen : M 0 4000 = L) (h : xlawC_65 (fun j => M 0 (i + j)) M m2) (hk : m2 0 = M 0 → xEv (296, 18, [some (53, 0), some (2, 1), some (13, 310), some (0, xw32 (i + 6))], [], m2) z) : xEv (296, 2147, [some (53, 0), some (2, 1), some (13, 310), some (0, i)], [], M) z := by
  obtain ⟨r, m1, h1, e1, h2, e2⟩ := h
  have w1 := (xlaw_w 1 hi hj hL (by decide) (by decide)).1
  have b1 : 0 ≤ xw32 (i + 1) ∧ xw32 (i + 1) < M 0 4000 := by rw [hlen]; exact (xlaw_w 1 hi hj hL (by decide) (by decide)).2
  have d1 : 0 ≤ xw32 (i + 1) ∧ xw32 (i + 1) < m1 0 4000 := by rw [e1]; exact b1
  have w2 := (xlaw_w 2 hi hj hL (by decide) (by decide)).1
  have b2 : 0 ≤ xw32 (i + 2) ∧ xw32 (i + 2) < M 0 4000 := by rw [hlen]; exact (xlaw_w 2 hi hj hL (by decide) (by decide)).2
  have d2 : 0 ≤ xw32 (i + 2) ∧ xw32 (i + 2) < m1 0 4000 := by rw [e1]; exact b2
  have w3 := (xlaw_w 3 hi hj hL (by decide) (by decide)).1
  have b3 : 0 ≤ xw32 (i + 3) ∧ xw32 (i + 3) < M 0 4000 := by rw [hlen]; exact (xlaw_w 3 hi hj hL (by decide) (by decide)).2
  have d3 : 0 ≤ xw32 (i + 3) ∧ xw32 (i + 3) < m1 0 4000 := by rw [e1]; exact b3
  have w4 := (xlaw_w 4 hi hj hL (by decide) (by decide)).1
  have b4 : 0 ≤ xw32 (i + 4) ∧ xw32 (i + 4) < M 0 4000 := by rw [hlen]; exact (xlaw_w 4 hi hj hL (by decide) (by decide)).2
  have d4 : 0 ≤ xw32 (i + 4) ∧ xw32 (i + 4) < m1 0 4000 := by rw [e1]; exact b4
  have w5 := (xlaw_w 5 hi hj hL (by decide) (by decide)).1
  have b5 : 0 ≤ xw32 (i + 5) ∧ xw32 (i + 5) < M 0 4000 := by rw [hlen]; exact (xlaw_w 5 hi hj hL (by decide) (by decide)).2
  have d5 : 0 ≤ xw32 (i + 5) ∧ xw32 (i + 5) < m1 0 4000 := by rw [e1]; exact b5
  have h1 : fD_paste 1 (M 0 (xw32 (i + 1))) (M 0 (xw32 (i + 2))) (M 0 (xw32 (i + 3))) (M 0 (xw32 (i + 4))) (M 0 (xw32 (i + 5))) M = some (r, m1) := by simp only [w1, w2, w3, w4, w5]; exact h1
  have h2 : fQ_paste 310 (m1 0 (xw32 (i + 1))) (m1 0 (xw32 (i + 2))) (m1 0 (xw32 (i + 3))) (m1 0 (xw32 (i + 4))) (m1 0 (xw32 (i + 5))) m1 = some (r, m2) := by simp only [e1, w1, w2, w3, w4, w5]; exact h2
  refine xEvG_n xml xfetch 26 (y := (296, 2173, [some (53, 0), some (2, 1), some (13, 310), some (0, i)], [(0, (M 0 (xw32 (i + 5)))), (0, (M 0 (xw32 (i + 4)))), (0, (M 0 (xw32 (i + 3)))), (0, (M 0 (xw32 (i + 2)))), (0, (M 0 (xw32 (i + 1)))), (2, 1)], M)) rfl ⟨b1, b2, b3, b4, b5, trivial⟩ ?_
  refine xEvG_call xml xfetch (q := (some (0, r), m1)) rfl (hD_paste 1 (M 0 (xw32 (i + 1))) (M 0 (xw32 (i + 2))) (M 0 (xw32 (i + 3))) (M 0 (xw32 (i + 4))) (M 0 (xw32 (i + 5))) M _ h1) ?_
  show xEv (296, 2176, [some (53, 0), some (2, 1), some (13, 310), some (0, i)], [(0, r)], m1) _
  refine xEvG_n xml xfetch 26 (y := (296, 2202, [some (53, 0), some (2, 1), some (13, 310), some (0, i)], [(0, (m1 0 (xw32 (i + 5)))), (0, (m1 0 (xw32 (i + 4)))), (0, (m1 0 (xw32 (i + 3)))), (0, (m1 0 (xw32 (i + 2)))), (0, (m1 0 (xw32 (i + 1)))), (13, 310), (0, r)], m1)) rfl ⟨d1, d2, d3, d4, d5, trivial⟩ ?_
  refine xEvG_call xml xfetch (q := (some (0, r), m2)) rfl (hQ_paste 310 (m1 0 (xw32 (i + 1))) (m1 0 (xw32 (i + 2))) (m1 0 (xw32 (i + 3))) (m1 0 (xw32 (i + 4))) (m1 0 (xw32 (i + 5))) m1 _ h2) ?_
  show xEv (296, 2205, [some (53, 0), some (2, 1), some (13, 310), some (0, i)], [(0, r), (0, r)], m2) _
  refine xEvG_n xml xfetch 1 (y := (296, if r = r then 2210 else 2208, [some (53, 0), some (2, 1), some (13, 310), some (0, i)], [], m2)) rfl trivial ?_
  refine xEvG_br xml xfetch (fun _ => ?_) (fun c_ => absurd rfl c_)
  refine xEvG_n xml xfetch 2 (y := (296, 18, [some (53, 0), some (2, 1), some (13, 310), some (0, (xw32 (i + 6)))], [], m2)) rfl trivial ?_
  exact hk e2
/-- one call of the law: both answer alike, from M to m2 -/
def xlawC (k : Nat) (a : Int → Int) (M m2 : xM) : Prop := match k with
  | 0 => xlawC_0 a M m2
  | 1 => xlawC_1 a M m2
  | 2 => xlawC_2 a M m2
  | 3 => xlawC_3 a M m2
  | 4 => xlawC_4 a M m2
  | 5 => xlawC_5 a M m2
  | 6 => xlawC_6 a M m2
  | 7 => xlawC_7 a M m2
  | 8 => xlawC_8 a M m2
  | 9 => xlawC_9 a M m2
  | 10 => xlawC_10 a M m2
  | 11 => xlawC_11 a M m2
  | 12 => xlawC_12 a M m2
  | 13 => xlawC_13 a M m2
  | 14 => xlawC_14 a M m2
  | 15 => xlawC_15 a M m2
  | 16 => xlawC_16 a M m2
  | 17 => xlawC_17 a M m2
  | 18 => xlawC_18 a M m2
  | 19 => xlawC_19 a M m2
  | 20 => xlawC_20 a M m2
  | 21 => xlawC_21 a M m2
  | 22 => xlawC_22 a M m2
  | 23 => xlawC_23 a M m2
  | 24 => xlawC_24 a M m2
  | 25 => xlawC_25 a M m2
  | 26 => xlawC_26 a M m2
  | 27 => xlawC_27 a M m2
  | 28 => xlawC_28 a M m2
  | 29 => xlawC_29 a M m2
  | 30 => xlawC_30 a M m2
  | 31 => xlawC_31 a M m2
  | 32 => xlawC_32 a M m2
  | 33 => xlawC_33 a M m2
  | 34 => xlawC_34 a M m2
  | 35 => xlawC_35 a M m2
  | 36 => xlawC_36 a M m2
  | 37 => xlawC_37 a M m2
  | 38 => xlawC_38 a M m2
  | 39 => xlawC_39 a M m2
  | 40 => xlawC_40 a M m2
  | 41 => xlawC_41 a M m2
  | 42 => xlawC_42 a M m2
  | 43 => xlawC_43 a M m2
  | 44 => xlawC_44 a M m2
  | 45 => xlawC_45 a M m2
  | 46 => xlawC_46 a M m2
  | 47 => xlawC_47 a M m2
  | 48 => xlawC_48 a M m2
  | 49 => xlawC_49 a M m2
  | 50 => xlawC_50 a M m2
  | 51 => xlawC_51 a M m2
  | 52 => xlawC_52 a M m2
  | 53 => xlawC_53 a M m2
  | 54 => xlawC_54 a M m2
  | 55 => xlawC_55 a M m2
  | 56 => xlawC_56 a M m2
  | 57 => xlawC_57 a M m2
  | 58 => xlawC_58 a M m2
  | 59 => xlawC_59 a M m2
  | 60 => xlawC_60 a M m2
  | 61 => xlawC_61 a M m2
  | 62 => xlawC_62 a M m2
  | 63 => xlawC_63 a M m2
  | 64 => xlawC_64 a M m2
  | 65 => xlawC_65 a M m2
  | _ => m2 = M
theorem xlawS {a : Int → Int} {M m2 : xM} (k : Nat) (h : xlawC k a M m2) : m2 0 = M 0 := match k, h with
  | 0, h => xlawS_0 (a := a) h
  | 1, h => xlawS_1 (a := a) h
  | 2, h => xlawS_2 (a := a) h
  | 3, h => xlawS_3 (a := a) h
  | 4, h => xlawS_4 (a := a) h
  | 5, h => xlawS_5 (a := a) h
  | 6, h => xlawS_6 (a := a) h
  | 7, h => xlawS_7 (a := a) h
  | 8, h => xlawS_8 (a := a) h
  | 9, h => xlawS_9 (a := a) h
  | 10, h => xlawS_10 (a := a) h
  | 11, h => xlawS_11 (a := a) h
  | 12, h => xlawS_12 (a := a) h
  | 13, h => xlawS_13 (a := a) h
  | 14, h => xlawS_14 (a := a) h
  | 15, h => xlawS_15 (a := a) h
  | 16, h => xlawS_16 (a := a) h
  | 17, h => xlawS_17 (a := a) h
  | 18, h => xlawS_18 (a := a) h
  | 19, h => xlawS_19 (a := a) h
  | 20, h => xlawS_20 (a := a) h
  | 21, h => xlawS_21 (a := a) h
  | 22, h => xlawS_22 (a := a) h
  | 23, h => xlawS_23 (a := a) h
  | 24, h => xlawS_24 (a := a) h
  | 25, h => xlawS_25 (a := a) h
  | 26, h => xlawS_26 (a := a) h
  | 27, h => xlawS_27 (a := a) h
  | 28, h => xlawS_28 (a := a) h
  | 29, h => xlawS_29 (a := a) h
  | 30, h => xlawS_30 (a := a) h
  | 31, h => xlawS_31 (a := a) h
  | 32, h => xlawS_32 (a := a) h
  | 33, h => xlawS_33 (a := a) h
  | 34, h => xlawS_34 (a := a) h
  | 35, h => xlawS_35 (a := a) h
  | 36, h => xlawS_36 (a := a) h
  | 37, h => xlawS_37 (a := a) h
  | 38, h => xlawS_38 (a := a) h
  | 39, h => xlawS_39 (a := a) h
  | 40, h => xlawS_40 (a := a) h
  | 41, h => xlawS_41 (a := a) h
  | 42, h => xlawS_42 (a := a) h
  | 43, h => xlawS_43 (a := a) h
  | 44, h => xlawS_44 (a := a) h
  | 45, h => xlawS_45 (a := a) h
  | 46, h => xlawS_46 (a := a) h
  | 47, h => xlawS_47 (a := a) h
  | 48, h => xlawS_48 (a := a) h
  | 49, h => xlawS_49 (a := a) h
  | 50, h => xlawS_50 (a := a) h
  | 51, h => xlawS_51 (a := a) h
  | 52, h => xlawS_52 (a := a) h
  | 53, h => xlawS_53 (a := a) h
  | 54, h => xlawS_54 (a := a) h
  | 55, h => xlawS_55 (a := a) h
  | 56, h => xlawS_56 (a := a) h
  | 57, h => xlawS_57 (a := a) h
  | 58, h => xlawS_58 (a := a) h
  | 59, h => xlawS_59 (a := a) h
  | 60, h => xlawS_60 (a := a) h
  | 61, h => xlawS_61 (a := a) h
  | 62, h => xlawS_62 (a := a) h
  | 63, h => xlawS_63 (a := a) h
  | 64, h => xlawS_64 (a := a) h
  | 65, h => xlawS_65 (a := a) h
  | k + 66, h => congrFun (show m2 = M from h) 0
theorem xtab_get (d : Nat) : ∀ (l : List Nat) (k : Nat), xtab (k : Int) d l = (l[k]?).getD d
  | [], _ => rfl
  | t :: l, 0 => rfl
  | t :: l, k + 1 => by
    have h1 : ¬ ((k + 1 : Nat) : Int) = 0 := by omega
    have h2 : ((k + 1 : Nat) : Int) - 1 = (k : Int) := by omega
    unfold xtab
    rw [if_neg h1, h2, xtab_get d l k]; rfl
def xlawT : List Nat := [312, 375, 398, 411, 434, 467, 500, 543, 586, 619, 642, 675, 708, 741, 764, 787, 820, 843, 866, 889, 922, 935, 958, 981, 1004, 1027, 1050, 1063, 1086, 1109, 1132, 1145, 1178, 1201, 1234, 1267, 1300, 1323, 1336, 1359, 1412, 1435, 1458, 1481, 1494, 1517, 1540, 1563, 1586, 1619, 1642, 1665, 1688, 1721, 1754, 1787, 1820, 1843, 1866, 1909, 1962, 1985, 2008, 2031, 2074, 2147]
theorem xlaw_at {i L : Int} {M m2 : xM} {z : Option xV × xM} (hi : 0 ≤ i) (hj : i + 6 ≤ L) (hL : L ≤ 3072) (hlen : M 0 4000 = L) (k : Nat) (h : xlawC k (fun j => M 0 (i + j)) M m2) (hk : m2 0 = M 0 → xEv (296, 18, [some (53, 0), some (2, 1), some (13, 310), some (0, xw32 (i + 6))], [], m2) z) : xEv (296, (xlawT[k]?).getD 2210, [some (53, 0), some (2, 1), some (13, 310), some (0, i)], [], M) z := match k, h with
  | 0, h => xlaw_0 hi hj hL hlen h hk
  | 1, h => xlaw_1 hi hj hL hlen h hk
  | 2, h => xlaw_2 hi hj hL hlen h hk
  | 3, h => xlaw_3 hi hj hL hlen h hk
  | 4, h => xlaw_4 hi hj hL hlen h hk
  | 5, h => xlaw_5 hi hj hL hlen h hk
  | 6, h => xlaw_6 hi hj hL hlen h hk
  | 7, h => xlaw_7 hi hj hL hlen h hk
  | 8, h => xlaw_8 hi hj hL hlen h hk
  | 9, h => xlaw_9 hi hj hL hlen h hk
  | 10, h => xlaw_10 hi hj hL hlen h hk
  | 11, h => xlaw_11 hi hj hL hlen h hk
  | 12, h => xlaw_12 hi hj hL hlen h hk
  | 13, h => xlaw_13 hi hj hL hlen h hk
  | 14, h => xlaw_14 hi hj hL hlen h hk
  | 15, h => xlaw_15 hi hj hL hlen h hk
  | 16, h => xlaw_16 hi hj hL hlen h hk
  | 17, h => xlaw_17 hi hj hL hlen h hk
  | 18, h => xlaw_18 hi hj hL hlen h hk
  | 19, h => xlaw_19 hi hj hL hlen h hk
  | 20, h => xlaw_20 hi hj hL hlen h hk
  | 21, h => xlaw_21 hi hj hL hlen h hk
  | 22, h => xlaw_22 hi hj hL hlen h hk
  | 23, h => xlaw_23 hi hj hL hlen h hk
  | 24, h => xlaw_24 hi hj hL hlen h hk
  | 25, h => xlaw_25 hi hj hL hlen h hk
  | 26, h => xlaw_26 hi hj hL hlen h hk
  | 27, h => xlaw_27 hi hj hL hlen h hk
  | 28, h => xlaw_28 hi hj hL hlen h hk
  | 29, h => xlaw_29 hi hj hL hlen h hk
  | 30, h => xlaw_30 hi hj hL hlen h hk
  | 31, h => xlaw_31 hi hj hL hlen h hk
  | 32, h => xlaw_32 hi hj hL hlen h hk
  | 33, h => xlaw_33 hi hj hL hlen h hk
  | 34, h => xlaw_34 hi hj hL hlen h hk
  | 35, h => xlaw_35 hi hj hL hlen h hk
  | 36, h => xlaw_36 hi hj hL hlen h hk
  | 37, h => xlaw_37 hi hj hL hlen h hk
  | 38, h => xlaw_38 hi hj hL hlen h hk
  | 39, h => xlaw_39 hi hj hL hlen h hk
  | 40, h => xlaw_40 hi hj hL hlen h hk
  | 41, h => xlaw_41 hi hj hL hlen h hk
  | 42, h => xlaw_42 hi hj hL hlen h hk
  | 43, h => xlaw_43 hi hj hL hlen h hk
  | 44, h => xlaw_44 hi hj hL hlen h hk
  | 45, h => xlaw_45 hi hj hL hlen h hk
  | 46, h => xlaw_46 hi hj hL hlen h hk
  | 47, h => xlaw_47 hi hj hL hlen h hk
  | 48, h => xlaw_48 hi hj hL hlen h hk
  | 49, h => xlaw_49 hi hj hL hlen h hk
  | 50, h => xlaw_50 hi hj hL hlen h hk
  | 51, h => xlaw_51 hi hj hL hlen h hk
  | 52, h => xlaw_52 hi hj hL hlen h hk
  | 53, h => xlaw_53 hi hj hL hlen h hk
  | 54, h => xlaw_54 hi hj hL hlen h hk
  | 55, h => xlaw_55 hi hj hL hlen h hk
  | 56, h => xlaw_56 hi hj hL hlen h hk
  | 57, h => xlaw_57 hi hj hL hlen h hk
  | 58, h => xlaw_58 hi hj hL hlen h hk
  | 59, h => xlaw_59 hi hj hL hlen h hk
  | 60, h => xlaw_60 hi hj hL hlen h hk
  | 61, h => xlaw_61 hi hj hL hlen h hk
  | 62, h => xlaw_62 hi hj hL hlen h hk
  | 63, h => xlaw_63 hi hj hL hlen h hk
  | 64, h => xlaw_64 hi hj hL hlen h hk
  | 65, h => xlaw_65 hi hj hL hlen h hk
  | k + 66, h => by
    have e : m2 = M := h
    subst e
    have e : (xlawT[k + 66]?).getD 2210 = 2210 := by rw [List.getElem?_eq_none (by simp only [xlawT, List.length_cons, List.length_nil]; omega)]; rfl
    rw [e]
    exact xEvG_n xml xfetch 2 (y := (296, 18, [some (53, 0), some (2, 1), some (13, 310), some (0, xw32 (i + 6))], [], m2)) rfl trivial (hk rfl)
theorem xand_127 (x : Int) : 0 ≤ xand x 127 := by
  rw [xand_eq]
  have h : (BitVec.ofInt 32 x &&& BitVec.ofInt 32 127).toNat ≤ 127 := by
    rw [BitVec.toNat_and]
    exact Nat.le_trans Nat.and_le_right (by decide)
  rw [BitVec.toInt_eq_toNat_of_lt (by omega)]
  omega
/-- the law comes to true, if every call keeps Sim and is answered alike -/
theorem xlaw_loop (Sim : xM → Prop) (w : Int → Int) (L : Int) (h0 : 0 ≤ L) (hL : L ≤ 3072) (hlen : w 4000 = L) (hw : ∀ j, 0 ≤ j → j < L → x32 (w j))
    (hS : ∀ (k : Nat) (a : Int → Int) (M : xM), (∀ j, 0 ≤ j → j ≤ 5 → x32 (a j)) → Sim M → ∃ m2, xlawC k a M m2 ∧ Sim m2) :
    ∀ (n : Nat) (i : Int) (M : xM), 0 ≤ i → i ≤ L + 6 → L - i ≤ n → Sim M → M 0 = w → ∃ M', xEv (296, 18, [some (53, 0), some (2, 1), some (13, 310), some (0, i)], [], M) (some (0, 1), M') := by
  intro n
  induction n with
  | zero =>
    intro i M hi hi' hn hs hM
    refine ⟨M, ?_⟩
    refine xEvG_n xml xfetch 6 (y := (296, if xw32 (M 0 4000 - 6) < i then 2216 else 27, [some (53, 0), some (2, 1), some (13, 310), some (0, i)], [], M)) rfl trivial ?_
    refine xEvG_br xml xfetch (fun _ => ?_) (fun c_ => absurd ?_ c_)
    · exact xEvG_n xml xfetch 1 (y := (296, 2217, [some (53, 0), some (2, 1), some (13, 310), some (0, i)], [(0, 1)], M)) rfl trivial (xEvG_retc xml xfetch rfl (Or.inr rfl))
    · rw [hM, hlen, xw32_eq]; omega
  | succ n ih =>
    intro i M hi hi' hn hs hM
    by_cases hc : xw32 (M 0 4000 - 6) < i
    · refine ⟨M, ?_⟩
      refine xEvG_n xml xfetch 6 (y := (296, if xw32 (M 0 4000 - 6) < i then 2216 else 27, [some (53, 0), some (2, 1), some (13, 310), some (0, i)], [], M)) rfl trivial ?_
      refine xEvG_br xml xfetch (fun _ => ?_) (fun c_ => absurd hc c_)
      exact xEvG_n xml xfetch 1 (y := (296, 2217, [some (53, 0), some (2, 1), some (13, 310), some (0, i)], [(0, 1)], M)) rfl trivial (xEvG_retc xml xfetch rfl (Or.inr rfl))
    · have hj : i + 6 ≤ L := by rw [hM, hlen, xw32_eq] at hc; omega
      obtain ⟨k, hk⟩ := Int.eq_ofNat_of_zero_le (xand_127 (M 0 i))
      obtain ⟨m2, hcall, hs2⟩ := hS k (fun j => M 0 (i + j)) M (fun j h1 h2 => by rw [hM]; exact hw _ (by omega) (by omega)) hs
      have hlen' : M 0 4000 = L := by rw [hM]; exact hlen
      have h0' := xlawS k hcall
      have hbd : 0 ≤ i ∧ i < M 0 4000 := by rw [hlen']; omega
      obtain ⟨M', hM'⟩ := ih (xw32 (i + 6)) m2 (by rw [xw32_eq]; omega) (by rw [xw32_eq]; omega) (by rw [xw32_eq]; omega) hs2 (h0'.trans hM)
      refine ⟨M', ?_⟩
      refine xEvG_n xml xfetch 6 (y := (296, if xw32 (M 0 4000 - 6) < i then 2216 else 27, [some (53, 0), some (2, 1), some (13, 310), some (0, i)], [], M)) rfl trivial ?_
      refine xEvG_br xml xfetch (fun c_ => absurd c_ hc) (fun _ => ?_)
      refine xEvG_n xml xfetch 6 (y := (296, if xand (M 0 i) 127 < 0 then 2210 else xtab (xand (M 0 i) 127 - 0) 2210 xlawT, [some (53, 0), some (2, 1), some (13, 310), some (0, i)], [], M)) rfl ⟨hbd, trivial⟩ ?_
      rw [hk, if_neg (by omega), show ((k : Int) - 0) = (k : Int) from by omega, xtab_get]
      exact xlaw_at hi hj hL hlen' k hcall (fun _ => hM')
end
