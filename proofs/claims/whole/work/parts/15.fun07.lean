/-! the methods as functions, each with its proof (printed by wip/tools/fgen.py) -/
noncomputable section
/-- ConsentDoorsModel.sleepLine()V -/
def fQ_sleepLine (a0 : Int) (M : xM) : Option xM := xB (fQ_hasRead a0 5 M) (fun v1 => xB (fQ_cellHere a0 M) (fun q_ => match q_ with | (v2, m2) => xA (0 ≤ (xw32 (3 * (xw32 (32 + v1)))) ∧ (xw32 (3 * (xw32 (32 + v1)))) < 120) (xB (fQ_hasRead a0 1 (xwr m2 (a0 + 9) (xw32 (3 * (xw32 (32 + v1)))) v2)) (fun v3 => xB (fQ_number3 a0 131638 0 (xw32 (v3 - 1)) (xwr m2 (a0 + 9) (xw32 (3 * (xw32 (32 + v1)))) v2)) (fun q_ => match q_ with | (v4, m4) => xA (0 ≤ (xw32 ((xw32 (3 * (xw32 (32 + v1)))) + 1)) ∧ (xw32 ((xw32 (3 * (xw32 (32 + v1)))) + 1)) < 120) (xA (0 ≤ (xw32 ((xw32 (3 * (xw32 (32 + v1)))) + 1)) ∧ (xw32 ((xw32 (3 * (xw32 (32 + v1)))) + 1)) < 120) (xB (fQ_hasRead a0 1 (xwr m4 (a0 + 9) (xw32 ((xw32 (3 * (xw32 (32 + v1)))) + 1)) v4)) (fun v5 => xB (fQ_number3 a0 555 ((xwr m4 (a0 + 9) (xw32 ((xw32 (3 * (xw32 (32 + v1)))) + 1)) v4) (a0 + 9) (xw32 ((xw32 (3 * (xw32 (32 + v1)))) + 1))) (xw32 (v5 - 1)) (xwr m4 (a0 + 9) (xw32 ((xw32 (3 * (xw32 (32 + v1)))) + 1)) v4)) (fun q_ => match q_ with | (v6, m6) => xA (0 ≤ (xw32 ((xw32 (3 * (xw32 (32 + v1)))) + 2)) ∧ (xw32 ((xw32 (3 * (xw32 (32 + v1)))) + 2)) < 120) (some (xwr (xwr m6 (a0 + 9) (xw32 ((xw32 (3 * (xw32 (32 + v1)))) + 2)) v6) (a0 + 7) 33 (xw32 (((xwr m6 (a0 + 9) (xw32 ((xw32 (3 * (xw32 (32 + v1)))) + 2)) v6) (a0 + 7) 33) + 1)))))))))))))
theorem hQ_sleepLine (a0 : Int) (M : xM) (r : xM) (h : fQ_sleepLine a0 M = some r) : xEv (115, 0, [some (13, a0), none], [], M) (none, r) := by
  unfold fQ_sleepLine at h
  refine xEvG_n xml xfetch 4 (y := (115, 5, [some (13, a0), none], [(0, 5), (13, a0), (0, 32), (0, 3)], M)) rfl trivial ?_
  obtain ⟨v1, e_, h⟩ := xB_t h
  refine xEvG_call xml xfetch (q := (some (0, v1), M)) rfl (hQ_hasRead a0 5 M _ e_) ?_
  show xEv (115, 8, [some (13, a0), none], [(0, v1), (0, 32), (0, 3)], M) _
  refine xEvG_n xml xfetch 7 (y := (115, 17, [some (13, a0), some (0, (xw32 (3 * (xw32 (32 + v1)))))], [(13, a0), (0, (xw32 (3 * (xw32 (32 + v1))))), (36, (a0 + 9))], M)) rfl trivial ?_
  obtain ⟨⟨v2, m2⟩, e_, h⟩ := xB_t h
  refine xEvG_call xml xfetch (q := (some (0, v2), m2)) rfl (hQ_cellHere a0 M _ e_) ?_
  show xEv (115, 20, [some (13, a0), some (0, (xw32 (3 * (xw32 (32 + v1)))))], [(0, v2), (0, (xw32 (3 * (xw32 (32 + v1))))), (36, (a0 + 9))], m2) _
  have a0_ := (xA_t h).1
  have h := (xA_t h).2
  refine xEvG_n xml xfetch 11 (y := (115, 35, [some (13, a0), some (0, (xw32 (3 * (xw32 (32 + v1)))))], [(0, 1), (13, a0), (0, 0), (1, 131638), (13, a0), (0, (xw32 ((xw32 (3 * (xw32 (32 + v1)))) + 1))), (36, (a0 + 9))], (xwr m2 (a0 + 9) (xw32 (3 * (xw32 (32 + v1)))) v2))) rfl ⟨a0_, trivial⟩ ?_
  obtain ⟨v3, e_, h⟩ := xB_t h
  refine xEvG_call xml xfetch (q := (some (0, v3), (xwr m2 (a0 + 9) (xw32 (3 * (xw32 (32 + v1)))) v2))) rfl (hQ_hasRead a0 1 (xwr m2 (a0 + 9) (xw32 (3 * (xw32 (32 + v1)))) v2) _ e_) ?_
  show xEv (115, 38, [some (13, a0), some (0, (xw32 (3 * (xw32 (32 + v1)))))], [(0, v3), (0, 0), (1, 131638), (13, a0), (0, (xw32 ((xw32 (3 * (xw32 (32 + v1)))) + 1))), (36, (a0 + 9))], (xwr m2 (a0 + 9) (xw32 (3 * (xw32 (32 + v1)))) v2)) _
  refine xEvG_n xml xfetch 2 (y := (115, 40, [some (13, a0), some (0, (xw32 (3 * (xw32 (32 + v1)))))], [(0, (xw32 (v3 - 1))), (0, 0), (1, 131638), (13, a0), (0, (xw32 ((xw32 (3 * (xw32 (32 + v1)))) + 1))), (36, (a0 + 9))], (xwr m2 (a0 + 9) (xw32 (3 * (xw32 (32 + v1)))) v2))) rfl trivial ?_
  obtain ⟨⟨v4, m4⟩, e_, h⟩ := xB_t h
  refine xEvG_call xml xfetch (q := (some (0, v4), m4)) rfl (hQ_number3 a0 131638 0 (xw32 (v3 - 1)) (xwr m2 (a0 + 9) (xw32 (3 * (xw32 (32 + v1)))) v2) _ e_) ?_
  show xEv (115, 43, [some (13, a0), some (0, (xw32 (3 * (xw32 (32 + v1)))))], [(0, v4), (0, (xw32 ((xw32 (3 * (xw32 (32 + v1)))) + 1))), (36, (a0 + 9))], m4) _
  have a0_ := (xA_t h).1
  have h := (xA_t h).2
  have a1_ := (xA_t h).1
  have h := (xA_t h).2
  refine xEvG_n xml xfetch 16 (y := (115, 65, [some (13, a0), some (0, (xw32 (3 * (xw32 (32 + v1)))))], [(0, 1), (13, a0), (0, ((xwr m4 (a0 + 9) (xw32 ((xw32 (3 * (xw32 (32 + v1)))) + 1)) v4) (a0 + 9) (xw32 ((xw32 (3 * (xw32 (32 + v1)))) + 1)))), (1, 555), (13, a0), (0, (xw32 ((xw32 (3 * (xw32 (32 + v1)))) + 2))), (36, (a0 + 9))], (xwr m4 (a0 + 9) (xw32 ((xw32 (3 * (xw32 (32 + v1)))) + 1)) v4))) rfl ⟨a0_, a1_, trivial⟩ ?_
  obtain ⟨v5, e_, h⟩ := xB_t h
  refine xEvG_call xml xfetch (q := (some (0, v5), (xwr m4 (a0 + 9) (xw32 ((xw32 (3 * (xw32 (32 + v1)))) + 1)) v4))) rfl (hQ_hasRead a0 1 (xwr m4 (a0 + 9) (xw32 ((xw32 (3 * (xw32 (32 + v1)))) + 1)) v4) _ e_) ?_
  show xEv (115, 68, [some (13, a0), some (0, (xw32 (3 * (xw32 (32 + v1)))))], [(0, v5), (0, ((xwr m4 (a0 + 9) (xw32 ((xw32 (3 * (xw32 (32 + v1)))) + 1)) v4) (a0 + 9) (xw32 ((xw32 (3 * (xw32 (32 + v1)))) + 1)))), (1, 555), (13, a0), (0, (xw32 ((xw32 (3 * (xw32 (32 + v1)))) + 2))), (36, (a0 + 9))], (xwr m4 (a0 + 9) (xw32 ((xw32 (3 * (xw32 (32 + v1)))) + 1)) v4)) _
  refine xEvG_n xml xfetch 2 (y := (115, 70, [some (13, a0), some (0, (xw32 (3 * (xw32 (32 + v1)))))], [(0, (xw32 (v5 - 1))), (0, ((xwr m4 (a0 + 9) (xw32 ((xw32 (3 * (xw32 (32 + v1)))) + 1)) v4) (a0 + 9) (xw32 ((xw32 (3 * (xw32 (32 + v1)))) + 1)))), (1, 555), (13, a0), (0, (xw32 ((xw32 (3 * (xw32 (32 + v1)))) + 2))), (36, (a0 + 9))], (xwr m4 (a0 + 9) (xw32 ((xw32 (3 * (xw32 (32 + v1)))) + 1)) v4))) rfl trivial ?_
  obtain ⟨⟨v6, m6⟩, e_, h⟩ := xB_t h
  refine xEvG_call xml xfetch (q := (some (0, v6), m6)) rfl (hQ_number3 a0 555 ((xwr m4 (a0 + 9) (xw32 ((xw32 (3 * (xw32 (32 + v1)))) + 1)) v4) (a0 + 9) (xw32 ((xw32 (3 * (xw32 (32 + v1)))) + 1))) (xw32 (v5 - 1)) (xwr m4 (a0 + 9) (xw32 ((xw32 (3 * (xw32 (32 + v1)))) + 1)) v4) _ e_) ?_
  show xEv (115, 73, [some (13, a0), some (0, (xw32 (3 * (xw32 (32 + v1)))))], [(0, v6), (0, (xw32 ((xw32 (3 * (xw32 (32 + v1)))) + 2))), (36, (a0 + 9))], m6) _
  have a0_ := (xA_t h).1
  have h := (xA_t h).2
  refine xEvG_n xml xfetch 9 (y := (115, 85, [some (13, a0), some (0, (xw32 (3 * (xw32 (32 + v1)))))], [], (xwr (xwr m6 (a0 + 9) (xw32 ((xw32 (3 * (xw32 (32 + v1)))) + 2)) v6) (a0 + 7) 33 (xw32 (((xwr m6 (a0 + 9) (xw32 ((xw32 (3 * (xw32 (32 + v1)))) + 2)) v6) (a0 + 7) 33) + 1))))) rfl ⟨a0_, by decide, by decide, trivial⟩ ?_
  cases h
  exact xEvG_ret xml xfetch rfl

def fQ_manLine_L122 (x0 x1 y0 y1 y2 : Int) (M : xM) : Option xM := xA (0 ≤ y1 ∧ y1 < 270) (xB (fQ_number3 x0 289903041 0 9 (xwr M y2 y1 y0)) (fun q_ => match q_ with | (v9, m9) => xA (0 ≤ (xw32 (x1 + 2)) ∧ (xw32 (x1 + 2)) < 270) (xB (fQ_number3 x0 240023 0 9 (xwr m9 (x0 + 8) (xw32 (x1 + 2)) v9)) (fun q_ => match q_ with | (v10, m10) => xA (0 ≤ (xw32 (x1 + 3)) ∧ (xw32 (x1 + 3)) < 270) (xB (fQ_number3 x0 9748424 0 9 (xwr m10 (x0 + 8) (xw32 (x1 + 3)) v10)) (fun q_ => match q_ with | (v11, m11) => xA (0 ≤ (xw32 (x1 + 4)) ∧ (xw32 (x1 + 4)) < 270) (xB (fQ_takes x0 6690801 (xwr m11 (x0 + 8) (xw32 (x1 + 4)) v11)) (fun q_ => match q_ with | (v12, m12) => xA (0 ≤ (xw32 (x1 + 5)) ∧ (xw32 (x1 + 5)) < 270) (some (xwr (xwr m12 (x0 + 8) (xw32 (x1 + 5)) (if v12 = 0 then 0 else 1 : Int)) (x0 + 7) 30 (xw32 (((xwr m12 (x0 + 8) (xw32 (x1 + 5)) (if v12 = 0 then 0 else 1 : Int)) (x0 + 7) 30) + 1))))))))))))
theorem hQ_manLine_L122 (x0 x1 y0 y1 y2 : Int) (M : xM) (r : xM) (h : fQ_manLine_L122 x0 x1 y0 y1 y2 M = some r) : xEv (111, 122, [some (13, x0), some (0, x1), none], [(0, y0), (0, y1), (35, y2)], M) (none, r) := by
  unfold fQ_manLine_L122 at h
  have a0_ := (xA_t h).1
  have h := (xA_t h).2
  refine xEvG_n xml xfetch 10 (y := (111, 137, [some (13, x0), some (0, x1), none], [(0, 9), (0, 0), (1, 289903041), (13, x0), (0, (xw32 (x1 + 2))), (35, (x0 + 8))], (xwr M y2 y1 y0))) rfl ⟨a0_, trivial⟩ ?_
  obtain ⟨⟨v9, m9⟩, e_, h⟩ := xB_t h
  refine xEvG_call xml xfetch (q := (some (0, v9), m9)) rfl (hQ_number3 x0 289903041 0 9 (xwr M y2 y1 y0) _ e_) ?_
  show xEv (111, 140, [some (13, x0), some (0, x1), none], [(0, v9), (0, (xw32 (x1 + 2))), (35, (x0 + 8))], m9) _
  have a0_ := (xA_t h).1
  have h := (xA_t h).2
  refine xEvG_n xml xfetch 10 (y := (111, 155, [some (13, x0), some (0, x1), none], [(0, 9), (0, 0), (1, 240023), (13, x0), (0, (xw32 (x1 + 3))), (35, (x0 + 8))], (xwr m9 (x0 + 8) (xw32 (x1 + 2)) v9))) rfl ⟨a0_, trivial⟩ ?_
  obtain ⟨⟨v10, m10⟩, e_, h⟩ := xB_t h
  refine xEvG_call xml xfetch (q := (some (0, v10), m10)) rfl (hQ_number3 x0 240023 0 9 (xwr m9 (x0 + 8) (xw32 (x1 + 2)) v9) _ e_) ?_
  show xEv (111, 158, [some (13, x0), some (0, x1), none], [(0, v10), (0, (xw32 (x1 + 3))), (35, (x0 + 8))], m10) _
  have a0_ := (xA_t h).1
  have h := (xA_t h).2
  refine xEvG_n xml xfetch 10 (y := (111, 173, [some (13, x0), some (0, x1), none], [(0, 9), (0, 0), (1, 9748424), (13, x0), (0, (xw32 (x1 + 4))), (35, (x0 + 8))], (xwr m10 (x0 + 8) (xw32 (x1 + 3)) v10))) rfl ⟨a0_, trivial⟩ ?_
  obtain ⟨⟨v11, m11⟩, e_, h⟩ := xB_t h
  refine xEvG_call xml xfetch (q := (some (0, v11), m11)) rfl (hQ_number3 x0 9748424 0 9 (xwr m10 (x0 + 8) (xw32 (x1 + 3)) v10) _ e_) ?_
  show xEv (111, 176, [some (13, x0), some (0, x1), none], [(0, v11), (0, (xw32 (x1 + 4))), (35, (x0 + 8))], m11) _
  have a0_ := (xA_t h).1
  have h := (xA_t h).2
  refine xEvG_n xml xfetch 8 (y := (111, 188, [some (13, x0), some (0, x1), none], [(1, 6690801), (13, x0), (0, (xw32 (x1 + 5))), (35, (x0 + 8))], (xwr m11 (x0 + 8) (xw32 (x1 + 4)) v11))) rfl ⟨a0_, trivial⟩ ?_
  obtain ⟨⟨v12, m12⟩, e_, h⟩ := xB_t h
  refine xEvG_call xml xfetch (q := (some (0, v12), m12)) rfl (hQ_takes x0 6690801 (xwr m11 (x0 + 8) (xw32 (x1 + 4)) v11) _ e_) ?_
  show xEv (111, 191, [some (13, x0), some (0, x1), none], [(0, v12), (0, (xw32 (x1 + 5))), (35, (x0 + 8))], m12) _
  have key_ : xEv (111, 199, [some (13, x0), some (0, x1), none], [(0, (if v12 = 0 then 0 else 1 : Int)), (0, (xw32 (x1 + 5))), (35, (x0 + 8))], m12) (none, r) := by
    have a0_ := (xA_t h).1
    have h := (xA_t h).2
    refine xEvG_n xml xfetch 9 (y := (111, 211, [some (13, x0), some (0, x1), none], [], (xwr (xwr m12 (x0 + 8) (xw32 (x1 + 5)) (if v12 = 0 then 0 else 1 : Int)) (x0 + 7) 30 (xw32 (((xwr m12 (x0 + 8) (xw32 (x1 + 5)) (if v12 = 0 then 0 else 1 : Int)) (x0 + 7) 30) + 1))))) rfl ⟨a0_, by decide, by decide, trivial⟩ ?_
    cases h
    exact xEvG_ret xml xfetch rfl
  refine xEvG_n xml xfetch 1 (y := (111, if v12 = 0 then 198 else 194, [some (13, x0), some (0, x1), none], [(0, (xw32 (x1 + 5))), (35, (x0 + 8))], m12)) rfl trivial ?_
  refine xEvG_br xml xfetch (fun c2_ => ?_) (fun c2_ => ?_)
  · refine xEvG_n xml xfetch 1 (y := (111, 199, [some (13, x0), some (0, x1), none], [(0, 0), (0, (xw32 (x1 + 5))), (35, (x0 + 8))], m12)) rfl trivial ?_
    try simp only [if_pos c2_] at key_
    try simp only [if_pos c2_]
    exact key_
  · refine xEvG_n xml xfetch 2 (y := (111, 199, [some (13, x0), some (0, x1), none], [(0, 1), (0, (xw32 (x1 + 5))), (35, (x0 + 8))], m12)) rfl trivial ?_
    try simp only [if_neg c2_] at key_
    try simp only [if_neg c2_]
    exact key_
def fQ_manLine_L69 (x0 x1 y0 : Int) (M : xM) : Option xM := if y0 = (-1) then (if ((fQ_fails x0 1 M) x0 12) = 0 then (xB (fQ_next x0 (fQ_fails x0 1 M)) (fun m16 => xA (0 ≤ x1 ∧ x1 < 270) (if y0 = 2 then (xB (fQ_number2 x0 2 9 (xwr m16 (x0 + 8) x1 y0)) (fun q_ => match q_ with | (v17, m17) => fQ_manLine_L122 x0 x1 v17 (xw32 (x1 + 1)) (x0 + 8) m17)) else (fQ_manLine_L122 x0 x1 0 (xw32 (x1 + 1)) (x0 + 8) (xwr m16 (x0 + 8) x1 y0))))) else (some (fQ_fails x0 1 M))) else (if (M x0 12) = 0 then (xB (fQ_next x0 M) (fun m18 => xA (0 ≤ x1 ∧ x1 < 270) (if y0 = 2 then (xB (fQ_number2 x0 2 9 (xwr m18 (x0 + 8) x1 y0)) (fun q_ => match q_ with | (v19, m19) => fQ_manLine_L122 x0 x1 v19 (xw32 (x1 + 1)) (x0 + 8) m19)) else (fQ_manLine_L122 x0 x1 0 (xw32 (x1 + 1)) (x0 + 8) (xwr m18 (x0 + 8) x1 y0))))) else (some M))
theorem hQ_manLine_L69 (x0 x1 y0 : Int) (M : xM) (r : xM) (h : fQ_manLine_L69 x0 x1 y0 M = some r) : xEv (111, 69, [some (13, x0), some (0, x1), none], [(0, y0)], M) (none, r) := by
  unfold fQ_manLine_L69 at h
  refine xEvG_n xml xfetch 4 (y := (111, if y0 = (-1) then 75 else 80, [some (13, x0), some (0, x1), some (0, y0)], [], M)) rfl trivial ?_
  refine xEvG_br xml xfetch (fun c_ => ?_) (fun c_ => ?_)
  · have h := xif_t c_ h
    refine xEvG_n xml xfetch 2 (y := (111, 77, [some (13, x0), some (0, x1), some (0, y0)], [(0, 1), (13, x0)], M)) rfl trivial ?_
    refine xEvG_call xml xfetch (q := (none, fQ_fails x0 1 M)) rfl (hQ_fails x0 1 M _ rfl) ?_
    show xEv (111, 80, [some (13, x0), some (0, x1), some (0, y0)], [], (fQ_fails x0 1 M)) _
    refine xEvG_n xml xfetch 3 (y := (111, if ((fQ_fails x0 1 M) x0 12) = 0 then 88 else 87, [some (13, x0), some (0, x1), some (0, y0)], [], (fQ_fails x0 1 M))) rfl trivial ?_
    refine xEvG_br xml xfetch (fun c_ => ?_) (fun c_ => ?_)
    · have h := xif_t c_ h
      refine xEvG_n xml xfetch 1 (y := (111, 89, [some (13, x0), some (0, x1), some (0, y0)], [(13, x0)], (fQ_fails x0 1 M))) rfl trivial ?_
      obtain ⟨m16, e_, h⟩ := xB_t h
      refine xEvG_call xml xfetch (q := (none, m16)) rfl (hQ_next x0 (fQ_fails x0 1 M) _ e_) ?_
      show xEv (111, 92, [some (13, x0), some (0, x1), some (0, y0)], [], m16) _
      have a0_ := (xA_t h).1
      have h := (xA_t h).2
      refine xEvG_n xml xfetch 13 (y := (111, if y0 = 2 then 111 else 121, [some (13, x0), some (0, x1), some (0, y0)], [(0, (xw32 (x1 + 1))), (35, (x0 + 8))], (xwr m16 (x0 + 8) x1 y0))) rfl ⟨a0_, trivial⟩ ?_
      refine xEvG_br xml xfetch (fun c_ => ?_) (fun c_ => ?_)
      · have h := xif_t c_ h
        refine xEvG_n xml xfetch 3 (y := (111, 115, [some (13, x0), some (0, x1), some (0, y0)], [(0, 9), (0, 2), (13, x0), (0, (xw32 (x1 + 1))), (35, (x0 + 8))], (xwr m16 (x0 + 8) x1 y0))) rfl trivial ?_
        obtain ⟨⟨v17, m17⟩, e_, h⟩ := xB_t h
        refine xEvG_call xml xfetch (q := (some (0, v17), m17)) rfl (hQ_number2 x0 2 9 (xwr m16 (x0 + 8) x1 y0) _ e_) ?_
        show xEv (111, 118, [some (13, x0), some (0, x1), some (0, y0)], [(0, v17), (0, (xw32 (x1 + 1))), (35, (x0 + 8))], m17) _
        refine xEvG_n xml xfetch 1 (y := (111, 122, [some (13, x0), some (0, x1), some (0, y0)], [(0, v17), (0, (xw32 (x1 + 1))), (35, (x0 + 8))], m17)) rfl trivial ?_
        refine xEvG_mask xml xfetch [true, true, false] ?_
        exact hQ_manLine_L122 x0 x1 v17 (xw32 (x1 + 1)) (x0 + 8) m17 _ h
      · have h := xif_f c_ h
        refine xEvG_n xml xfetch 1 (y := (111, 122, [some (13, x0), some (0, x1), some (0, y0)], [(0, 0), (0, (xw32 (x1 + 1))), (35, (x0 + 8))], (xwr m16 (x0 + 8) x1 y0))) rfl trivial ?_
        refine xEvG_mask xml xfetch [true, true, false] ?_
        exact hQ_manLine_L122 x0 x1 0 (xw32 (x1 + 1)) (x0 + 8) (xwr m16 (x0 + 8) x1 y0) _ h
    · have h := xif_f c_ h
      cases h
      exact xEvG_ret xml xfetch rfl
  · have h := xif_f c_ h
    refine xEvG_n xml xfetch 3 (y := (111, if (M x0 12) = 0 then 88 else 87, [some (13, x0), some (0, x1), some (0, y0)], [], M)) rfl trivial ?_
    refine xEvG_br xml xfetch (fun c_ => ?_) (fun c_ => ?_)
    · have h := xif_t c_ h
      refine xEvG_n xml xfetch 1 (y := (111, 89, [some (13, x0), some (0, x1), some (0, y0)], [(13, x0)], M)) rfl trivial ?_
      obtain ⟨m18, e_, h⟩ := xB_t h
      refine xEvG_call xml xfetch (q := (none, m18)) rfl (hQ_next x0 M _ e_) ?_
      show xEv (111, 92, [some (13, x0), some (0, x1), some (0, y0)], [], m18) _
      have a0_ := (xA_t h).1
      have h := (xA_t h).2
      refine xEvG_n xml xfetch 13 (y := (111, if y0 = 2 then 111 else 121, [some (13, x0), some (0, x1), some (0, y0)], [(0, (xw32 (x1 + 1))), (35, (x0 + 8))], (xwr m18 (x0 + 8) x1 y0))) rfl ⟨a0_, trivial⟩ ?_
      refine xEvG_br xml xfetch (fun c_ => ?_) (fun c_ => ?_)
      · have h := xif_t c_ h
        refine xEvG_n xml xfetch 3 (y := (111, 115, [some (13, x0), some (0, x1), some (0, y0)], [(0, 9), (0, 2), (13, x0), (0, (xw32 (x1 + 1))), (35, (x0 + 8))], (xwr m18 (x0 + 8) x1 y0))) rfl trivial ?_
        obtain ⟨⟨v19, m19⟩, e_, h⟩ := xB_t h
        refine xEvG_call xml xfetch (q := (some (0, v19), m19)) rfl (hQ_number2 x0 2 9 (xwr m18 (x0 + 8) x1 y0) _ e_) ?_
        show xEv (111, 118, [some (13, x0), some (0, x1), some (0, y0)], [(0, v19), (0, (xw32 (x1 + 1))), (35, (x0 + 8))], m19) _
        refine xEvG_n xml xfetch 1 (y := (111, 122, [some (13, x0), some (0, x1), some (0, y0)], [(0, v19), (0, (xw32 (x1 + 1))), (35, (x0 + 8))], m19)) rfl trivial ?_
        refine xEvG_mask xml xfetch [true, true, false] ?_
        exact hQ_manLine_L122 x0 x1 v19 (xw32 (x1 + 1)) (x0 + 8) m19 _ h
      · have h := xif_f c_ h
        refine xEvG_n xml xfetch 1 (y := (111, 122, [some (13, x0), some (0, x1), some (0, y0)], [(0, 0), (0, (xw32 (x1 + 1))), (35, (x0 + 8))], (xwr m18 (x0 + 8) x1 y0))) rfl trivial ?_
        refine xEvG_mask xml xfetch [true, true, false] ?_
        exact hQ_manLine_L122 x0 x1 0 (xw32 (x1 + 1)) (x0 + 8) (xwr m18 (x0 + 8) x1 y0) _ h
    · have h := xif_f c_ h
      cases h
      exact xEvG_ret xml xfetch rfl
/-- ConsentDoorsModel.manLine()V -/
def fQ_manLine (a0 : Int) (M : xM) : Option xM := xB (fQ_hasRead a0 2 M) (fun v1 => if (fQ_is a0 69867764215 M) = 0 then (if (fQ_is a0 8691724 M) = 0 then (if (fQ_is a0 7215046 M) = 0 then (if (if (fQ_is a0 82410 M) = 0 then (-1) else 3 : Int) = (-1) then (if ((fQ_fails a0 1 M) a0 12) = 0 then (xB (fQ_next a0 (fQ_fails a0 1 M)) (fun m7 => xA (0 ≤ (xw32 (6 * (xw32 (36 + v1)))) ∧ (xw32 (6 * (xw32 (36 + v1)))) < 270) (if (if (fQ_is a0 82410 M) = 0 then (-1) else 3 : Int) = 2 then (xB (fQ_number2 a0 2 9 (xwr m7 (a0 + 8) (xw32 (6 * (xw32 (36 + v1)))) (if (fQ_is a0 82410 M) = 0 then (-1) else 3 : Int))) (fun q_ => match q_ with | (v8, m8) => fQ_manLine_L122 a0 (xw32 (6 * (xw32 (36 + v1)))) v8 (xw32 ((xw32 (6 * (xw32 (36 + v1)))) + 1)) (a0 + 8) m8)) else (fQ_manLine_L122 a0 (xw32 (6 * (xw32 (36 + v1)))) 0 (xw32 ((xw32 (6 * (xw32 (36 + v1)))) + 1)) (a0 + 8) (xwr m7 (a0 + 8) (xw32 (6 * (xw32 (36 + v1)))) (if (fQ_is a0 82410 M) = 0 then (-1) else 3 : Int)))))) else (some (fQ_fails a0 1 M))) else (if (M a0 12) = 0 then (xB (fQ_next a0 M) (fun m13 => xA (0 ≤ (xw32 (6 * (xw32 (36 + v1)))) ∧ (xw32 (6 * (xw32 (36 + v1)))) < 270) (if (if (fQ_is a0 82410 M) = 0 then (-1) else 3 : Int) = 2 then (xB (fQ_number2 a0 2 9 (xwr m13 (a0 + 8) (xw32 (6 * (xw32 (36 + v1)))) (if (fQ_is a0 82410 M) = 0 then (-1) else 3 : Int))) (fun q_ => match q_ with | (v14, m14) => fQ_manLine_L122 a0 (xw32 (6 * (xw32 (36 + v1)))) v14 (xw32 ((xw32 (6 * (xw32 (36 + v1)))) + 1)) (a0 + 8) m14)) else (fQ_manLine_L122 a0 (xw32 (6 * (xw32 (36 + v1)))) 0 (xw32 ((xw32 (6 * (xw32 (36 + v1)))) + 1)) (a0 + 8) (xwr m13 (a0 + 8) (xw32 (6 * (xw32 (36 + v1)))) (if (fQ_is a0 82410 M) = 0 then (-1) else 3 : Int)))))) else (some M))) else (fQ_manLine_L69 a0 (xw32 (6 * (xw32 (36 + v1)))) 2 M)) else (fQ_manLine_L69 a0 (xw32 (6 * (xw32 (36 + v1)))) 1 M)) else (fQ_manLine_L69 a0 (xw32 (6 * (xw32 (36 + v1)))) 0 M))
theorem hQ_manLine (a0 : Int) (M : xM) (r : xM) (h : fQ_manLine a0 M = some r) : xEv (111, 0, [some (13, a0), none, none], [], M) (none, r) := by
  unfold fQ_manLine at h
  refine xEvG_n xml xfetch 4 (y := (111, 6, [some (13, a0), none, none], [(0, 2), (13, a0), (0, 36), (0, 6)], M)) rfl trivial ?_
  obtain ⟨v1, e_, h⟩ := xB_t h
  refine xEvG_call xml xfetch (q := (some (0, v1), M)) rfl (hQ_hasRead a0 2 M _ e_) ?_
  show xEv (111, 9, [some (13, a0), none, none], [(0, v1), (0, 36), (0, 6)], M) _
  refine xEvG_n xml xfetch 5 (y := (111, 16, [some (13, a0), some (0, (xw32 (6 * (xw32 (36 + v1))))), none], [(1, 69867764215), (13, a0)], M)) rfl trivial ?_
  refine xEvG_call xml xfetch (q := (some (0, fQ_is a0 69867764215 M), M)) rfl (hQ_is a0 69867764215 M _ rfl) ?_
  show xEv (111, 19, [some (13, a0), some (0, (xw32 (6 * (xw32 (36 + v1))))), none], [(0, (fQ_is a0 69867764215 M))], M) _
  refine xEvG_n xml xfetch 1 (y := (111, if (fQ_is a0 69867764215 M) = 0 then 26 else 22, [some (13, a0), some (0, (xw32 (6 * (xw32 (36 + v1))))), none], [], M)) rfl trivial ?_
  refine xEvG_br xml xfetch (fun c_ => ?_) (fun c_ => ?_)
  · have h := xif_t c_ h
    refine xEvG_n xml xfetch 2 (y := (111, 30, [some (13, a0), some (0, (xw32 (6 * (xw32 (36 + v1))))), none], [(1, 8691724), (13, a0)], M)) rfl trivial ?_
    refine xEvG_call xml xfetch (q := (some (0, fQ_is a0 8691724 M), M)) rfl (hQ_is a0 8691724 M _ rfl) ?_
    show xEv (111, 33, [some (13, a0), some (0, (xw32 (6 * (xw32 (36 + v1))))), none], [(0, (fQ_is a0 8691724 M))], M) _
    refine xEvG_n xml xfetch 1 (y := (111, if (fQ_is a0 8691724 M) = 0 then 40 else 36, [some (13, a0), some (0, (xw32 (6 * (xw32 (36 + v1))))), none], [], M)) rfl trivial ?_
    refine xEvG_br xml xfetch (fun c_ => ?_) (fun c_ => ?_)
    · have h := xif_t c_ h
      refine xEvG_n xml xfetch 2 (y := (111, 44, [some (13, a0), some (0, (xw32 (6 * (xw32 (36 + v1))))), none], [(1, 7215046), (13, a0)], M)) rfl trivial ?_
      refine xEvG_call xml xfetch (q := (some (0, fQ_is a0 7215046 M), M)) rfl (hQ_is a0 7215046 M _ rfl) ?_
      show xEv (111, 47, [some (13, a0), some (0, (xw32 (6 * (xw32 (36 + v1))))), none], [(0, (fQ_is a0 7215046 M))], M) _
      refine xEvG_n xml xfetch 1 (y := (111, if (fQ_is a0 7215046 M) = 0 then 54 else 50, [some (13, a0), some (0, (xw32 (6 * (xw32 (36 + v1))))), none], [], M)) rfl trivial ?_
      refine xEvG_br xml xfetch (fun c_ => ?_) (fun c_ => ?_)
      · have h := xif_t c_ h
        refine xEvG_n xml xfetch 2 (y := (111, 58, [some (13, a0), some (0, (xw32 (6 * (xw32 (36 + v1))))), none], [(1, 82410), (13, a0)], M)) rfl trivial ?_
        refine xEvG_call xml xfetch (q := (some (0, fQ_is a0 82410 M), M)) rfl (hQ_is a0 82410 M _ rfl) ?_
        show xEv (111, 61, [some (13, a0), some (0, (xw32 (6 * (xw32 (36 + v1))))), none], [(0, (fQ_is a0 82410 M))], M) _
        have key_ : xEv (111, 69, [some (13, a0), some (0, (xw32 (6 * (xw32 (36 + v1))))), none], [(0, (if (fQ_is a0 82410 M) = 0 then (-1) else 3 : Int))], M) (none, r) := by
          refine xEvG_n xml xfetch 4 (y := (111, if (if (fQ_is a0 82410 M) = 0 then (-1) else 3 : Int) = (-1) then 75 else 80, [some (13, a0), some (0, (xw32 (6 * (xw32 (36 + v1))))), some (0, (if (fQ_is a0 82410 M) = 0 then (-1) else 3 : Int))], [], M)) rfl trivial ?_
          refine xEvG_br xml xfetch (fun c_ => ?_) (fun c_ => ?_)
          · have h := xif_t c_ h
            refine xEvG_n xml xfetch 2 (y := (111, 77, [some (13, a0), some (0, (xw32 (6 * (xw32 (36 + v1))))), some (0, (if (fQ_is a0 82410 M) = 0 then (-1) else 3 : Int))], [(0, 1), (13, a0)], M)) rfl trivial ?_
            refine xEvG_call xml xfetch (q := (none, fQ_fails a0 1 M)) rfl (hQ_fails a0 1 M _ rfl) ?_
            show xEv (111, 80, [some (13, a0), some (0, (xw32 (6 * (xw32 (36 + v1))))), some (0, (if (fQ_is a0 82410 M) = 0 then (-1) else 3 : Int))], [], (fQ_fails a0 1 M)) _
            refine xEvG_n xml xfetch 3 (y := (111, if ((fQ_fails a0 1 M) a0 12) = 0 then 88 else 87, [some (13, a0), some (0, (xw32 (6 * (xw32 (36 + v1))))), some (0, (if (fQ_is a0 82410 M) = 0 then (-1) else 3 : Int))], [], (fQ_fails a0 1 M))) rfl trivial ?_
            refine xEvG_br xml xfetch (fun c_ => ?_) (fun c_ => ?_)
            · have h := xif_t c_ h
              refine xEvG_n xml xfetch 1 (y := (111, 89, [some (13, a0), some (0, (xw32 (6 * (xw32 (36 + v1))))), some (0, (if (fQ_is a0 82410 M) = 0 then (-1) else 3 : Int))], [(13, a0)], (fQ_fails a0 1 M))) rfl trivial ?_
              obtain ⟨m7, e_, h⟩ := xB_t h
              refine xEvG_call xml xfetch (q := (none, m7)) rfl (hQ_next a0 (fQ_fails a0 1 M) _ e_) ?_
              show xEv (111, 92, [some (13, a0), some (0, (xw32 (6 * (xw32 (36 + v1))))), some (0, (if (fQ_is a0 82410 M) = 0 then (-1) else 3 : Int))], [], m7) _
              have a0_ := (xA_t h).1
              have h := (xA_t h).2
              refine xEvG_n xml xfetch 13 (y := (111, if (if (fQ_is a0 82410 M) = 0 then (-1) else 3 : Int) = 2 then 111 else 121, [some (13, a0), some (0, (xw32 (6 * (xw32 (36 + v1))))), some (0, (if (fQ_is a0 82410 M) = 0 then (-1) else 3 : Int))], [(0, (xw32 ((xw32 (6 * (xw32 (36 + v1)))) + 1))), (35, (a0 + 8))], (xwr m7 (a0 + 8) (xw32 (6 * (xw32 (36 + v1)))) (if (fQ_is a0 82410 M) = 0 then (-1) else 3 : Int)))) rfl ⟨a0_, trivial⟩ ?_
              refine xEvG_br xml xfetch (fun c_ => ?_) (fun c_ => ?_)
              · have h := xif_t c_ h
                refine xEvG_n xml xfetch 3 (y := (111, 115, [some (13, a0), some (0, (xw32 (6 * (xw32 (36 + v1))))), some (0, (if (fQ_is a0 82410 M) = 0 then (-1) else 3 : Int))], [(0, 9), (0, 2), (13, a0), (0, (xw32 ((xw32 (6 * (xw32 (36 + v1)))) + 1))), (35, (a0 + 8))], (xwr m7 (a0 + 8) (xw32 (6 * (xw32 (36 + v1)))) (if (fQ_is a0 82410 M) = 0 then (-1) else 3 : Int)))) rfl trivial ?_
                obtain ⟨⟨v8, m8⟩, e_, h⟩ := xB_t h
                refine xEvG_call xml xfetch (q := (some (0, v8), m8)) rfl (hQ_number2 a0 2 9 (xwr m7 (a0 + 8) (xw32 (6 * (xw32 (36 + v1)))) (if (fQ_is a0 82410 M) = 0 then (-1) else 3 : Int)) _ e_) ?_
                show xEv (111, 118, [some (13, a0), some (0, (xw32 (6 * (xw32 (36 + v1))))), some (0, (if (fQ_is a0 82410 M) = 0 then (-1) else 3 : Int))], [(0, v8), (0, (xw32 ((xw32 (6 * (xw32 (36 + v1)))) + 1))), (35, (a0 + 8))], m8) _
                refine xEvG_n xml xfetch 1 (y := (111, 122, [some (13, a0), some (0, (xw32 (6 * (xw32 (36 + v1))))), some (0, (if (fQ_is a0 82410 M) = 0 then (-1) else 3 : Int))], [(0, v8), (0, (xw32 ((xw32 (6 * (xw32 (36 + v1)))) + 1))), (35, (a0 + 8))], m8)) rfl trivial ?_
                refine xEvG_mask xml xfetch [true, true, false] ?_
                exact hQ_manLine_L122 a0 (xw32 (6 * (xw32 (36 + v1)))) v8 (xw32 ((xw32 (6 * (xw32 (36 + v1)))) + 1)) (a0 + 8) m8 _ h
              · have h := xif_f c_ h
                refine xEvG_n xml xfetch 1 (y := (111, 122, [some (13, a0), some (0, (xw32 (6 * (xw32 (36 + v1))))), some (0, (if (fQ_is a0 82410 M) = 0 then (-1) else 3 : Int))], [(0, 0), (0, (xw32 ((xw32 (6 * (xw32 (36 + v1)))) + 1))), (35, (a0 + 8))], (xwr m7 (a0 + 8) (xw32 (6 * (xw32 (36 + v1)))) (if (fQ_is a0 82410 M) = 0 then (-1) else 3 : Int)))) rfl trivial ?_
                refine xEvG_mask xml xfetch [true, true, false] ?_
                exact hQ_manLine_L122 a0 (xw32 (6 * (xw32 (36 + v1)))) 0 (xw32 ((xw32 (6 * (xw32 (36 + v1)))) + 1)) (a0 + 8) (xwr m7 (a0 + 8) (xw32 (6 * (xw32 (36 + v1)))) (if (fQ_is a0 82410 M) = 0 then (-1) else 3 : Int)) _ h
            · have h := xif_f c_ h
              cases h
              exact xEvG_ret xml xfetch rfl
          · have h := xif_f c_ h
            refine xEvG_n xml xfetch 3 (y := (111, if (M a0 12) = 0 then 88 else 87, [some (13, a0), some (0, (xw32 (6 * (xw32 (36 + v1))))), some (0, (if (fQ_is a0 82410 M) = 0 then (-1) else 3 : Int))], [], M)) rfl trivial ?_
            refine xEvG_br xml xfetch (fun c_ => ?_) (fun c_ => ?_)
            · have h := xif_t c_ h
              refine xEvG_n xml xfetch 1 (y := (111, 89, [some (13, a0), some (0, (xw32 (6 * (xw32 (36 + v1))))), some (0, (if (fQ_is a0 82410 M) = 0 then (-1) else 3 : Int))], [(13, a0)], M)) rfl trivial ?_
              obtain ⟨m13, e_, h⟩ := xB_t h
              refine xEvG_call xml xfetch (q := (none, m13)) rfl (hQ_next a0 M _ e_) ?_
              show xEv (111, 92, [some (13, a0), some (0, (xw32 (6 * (xw32 (36 + v1))))), some (0, (if (fQ_is a0 82410 M) = 0 then (-1) else 3 : Int))], [], m13) _
              have a0_ := (xA_t h).1
              have h := (xA_t h).2
              refine xEvG_n xml xfetch 13 (y := (111, if (if (fQ_is a0 82410 M) = 0 then (-1) else 3 : Int) = 2 then 111 else 121, [some (13, a0), some (0, (xw32 (6 * (xw32 (36 + v1))))), some (0, (if (fQ_is a0 82410 M) = 0 then (-1) else 3 : Int))], [(0, (xw32 ((xw32 (6 * (xw32 (36 + v1)))) + 1))), (35, (a0 + 8))], (xwr m13 (a0 + 8) (xw32 (6 * (xw32 (36 + v1)))) (if (fQ_is a0 82410 M) = 0 then (-1) else 3 : Int)))) rfl ⟨a0_, trivial⟩ ?_
              refine xEvG_br xml xfetch (fun c_ => ?_) (fun c_ => ?_)
              · have h := xif_t c_ h
                refine xEvG_n xml xfetch 3 (y := (111, 115, [some (13, a0), some (0, (xw32 (6 * (xw32 (36 + v1))))), some (0, (if (fQ_is a0 82410 M) = 0 then (-1) else 3 : Int))], [(0, 9), (0, 2), (13, a0), (0, (xw32 ((xw32 (6 * (xw32 (36 + v1)))) + 1))), (35, (a0 + 8))], (xwr m13 (a0 + 8) (xw32 (6 * (xw32 (36 + v1)))) (if (fQ_is a0 82410 M) = 0 then (-1) else 3 : Int)))) rfl trivial ?_
                obtain ⟨⟨v14, m14⟩, e_, h⟩ := xB_t h
                refine xEvG_call xml xfetch (q := (some (0, v14), m14)) rfl (hQ_number2 a0 2 9 (xwr m13 (a0 + 8) (xw32 (6 * (xw32 (36 + v1)))) (if (fQ_is a0 82410 M) = 0 then (-1) else 3 : Int)) _ e_) ?_
                show xEv (111, 118, [some (13, a0), some (0, (xw32 (6 * (xw32 (36 + v1))))), some (0, (if (fQ_is a0 82410 M) = 0 then (-1) else 3 : Int))], [(0, v14), (0, (xw32 ((xw32 (6 * (xw32 (36 + v1)))) + 1))), (35, (a0 + 8))], m14) _
                refine xEvG_n xml xfetch 1 (y := (111, 122, [some (13, a0), some (0, (xw32 (6 * (xw32 (36 + v1))))), some (0, (if (fQ_is a0 82410 M) = 0 then (-1) else 3 : Int))], [(0, v14), (0, (xw32 ((xw32 (6 * (xw32 (36 + v1)))) + 1))), (35, (a0 + 8))], m14)) rfl trivial ?_
                refine xEvG_mask xml xfetch [true, true, false] ?_
                exact hQ_manLine_L122 a0 (xw32 (6 * (xw32 (36 + v1)))) v14 (xw32 ((xw32 (6 * (xw32 (36 + v1)))) + 1)) (a0 + 8) m14 _ h
              · have h := xif_f c_ h
                refine xEvG_n xml xfetch 1 (y := (111, 122, [some (13, a0), some (0, (xw32 (6 * (xw32 (36 + v1))))), some (0, (if (fQ_is a0 82410 M) = 0 then (-1) else 3 : Int))], [(0, 0), (0, (xw32 ((xw32 (6 * (xw32 (36 + v1)))) + 1))), (35, (a0 + 8))], (xwr m13 (a0 + 8) (xw32 (6 * (xw32 (36 + v1)))) (if (fQ_is a0 82410 M) = 0 then (-1) else 3 : Int)))) rfl trivial ?_
                refine xEvG_mask xml xfetch [true, true, false] ?_
                exact hQ_manLine_L122 a0 (xw32 (6 * (xw32 (36 + v1)))) 0 (xw32 ((xw32 (6 * (xw32 (36 + v1)))) + 1)) (a0 + 8) (xwr m13 (a0 + 8) (xw32 (6 * (xw32 (36 + v1)))) (if (fQ_is a0 82410 M) = 0 then (-1) else 3 : Int)) _ h
            · have h := xif_f c_ h
              cases h
              exact xEvG_ret xml xfetch rfl
        refine xEvG_n xml xfetch 1 (y := (111, if (fQ_is a0 82410 M) = 0 then 68 else 64, [some (13, a0), some (0, (xw32 (6 * (xw32 (36 + v1))))), none], [], M)) rfl trivial ?_
        refine xEvG_br xml xfetch (fun c8_ => ?_) (fun c8_ => ?_)
        · refine xEvG_n xml xfetch 1 (y := (111, 69, [some (13, a0), some (0, (xw32 (6 * (xw32 (36 + v1))))), none], [(0, (-1))], M)) rfl trivial ?_
          try simp only [if_pos c8_] at key_
          try simp only [if_pos c8_]
          exact key_
        · refine xEvG_n xml xfetch 2 (y := (111, 69, [some (13, a0), some (0, (xw32 (6 * (xw32 (36 + v1))))), none], [(0, 3)], M)) rfl trivial ?_
          try simp only [if_neg c8_] at key_
          try simp only [if_neg c8_]
          exact key_
      · have h := xif_f c_ h
        refine xEvG_n xml xfetch 2 (y := (111, 69, [some (13, a0), some (0, (xw32 (6 * (xw32 (36 + v1))))), none], [(0, 2)], M)) rfl trivial ?_
        refine xEvG_mask xml xfetch [true, true, false] ?_
        exact hQ_manLine_L69 a0 (xw32 (6 * (xw32 (36 + v1)))) 2 M _ h
    · have h := xif_f c_ h
      refine xEvG_n xml xfetch 2 (y := (111, 69, [some (13, a0), some (0, (xw32 (6 * (xw32 (36 + v1))))), none], [(0, 1)], M)) rfl trivial ?_
      refine xEvG_mask xml xfetch [true, true, false] ?_
      exact hQ_manLine_L69 a0 (xw32 (6 * (xw32 (36 + v1)))) 1 M _ h
  · have h := xif_f c_ h
    refine xEvG_n xml xfetch 2 (y := (111, 69, [some (13, a0), some (0, (xw32 (6 * (xw32 (36 + v1))))), none], [(0, 0)], M)) rfl trivial ?_
    refine xEvG_mask xml xfetch [true, true, false] ?_
    exact hQ_manLine_L69 a0 (xw32 (6 * (xw32 (36 + v1)))) 0 M _ h

/-- ConsentDoorsModel.line()V -/
def fQ_line (a0 : Int) (M : xM) : Option xM := if (fQ_is a0 63030 M) = 0 then (if (fQ_is a0 279109036 M) = 0 then (if (fQ_is a0 385495 M) = 0 then (if (M a0 12) = 0 then (if (fQ_is a0 63030 M) = 0 then (if (fQ_is a0 279109036 M) = 0 then (if (fQ_is a0 385495 M) = 0 then (xB (fQ_takes a0 6888374364 M) (fun q_ => match q_ with | (v4, m4) => if v4 = 0 then (xB (fQ_asks a0 323717 m4) (fun m5 => xB (fQ_hasRead a0 1 m5) (fun v6 => xB (fQ_number2 a0 0 (xw32 (v6 - 1)) m5) (fun q_ => match q_ with | (v7, m7) => xB (fQ_cellHere a0 m7) (fun q_ => match q_ with | (v8, m8) => if (fQ_isGood a0 m8) = 0 then (some m8) else (xA (0 ≤ (xw32 (96 + v7)) ∧ (xw32 (96 + v7)) < 120) (some (xwr m8 (a0 + 11) (xw32 (96 + v7)) v8)))))))) else (xB (fQ_quarrelLine a0 m4) (fun m10 => some m10)))) else (xB (fQ_next a0 M) (fun m11 => if (fQ_is a0 63030 M) = 0 then (if (fQ_is a0 279109036 M) = 0 then (xB (fQ_soupLine a0 m11) (fun m12 => some m12)) else (xB (fQ_sleepLine a0 m11) (fun m13 => some m13))) else (xB (fQ_manLine a0 m11) (fun m14 => some m14))))) else (xB (fQ_next a0 M) (fun m15 => if (fQ_is a0 63030 M) = 0 then (if (fQ_is a0 279109036 M) = 0 then (xB (fQ_soupLine a0 m15) (fun m16 => some m16)) else (xB (fQ_sleepLine a0 m15) (fun m17 => some m17))) else (xB (fQ_manLine a0 m15) (fun m18 => some m18))))) else (xB (fQ_next a0 M) (fun m19 => if (fQ_is a0 63030 M) = 0 then (if (fQ_is a0 279109036 M) = 0 then (xB (fQ_soupLine a0 m19) (fun m20 => some m20)) else (xB (fQ_sleepLine a0 m19) (fun m21 => some m21))) else (xB (fQ_manLine a0 m19) (fun m22 => some m22))))) else (some M)) else (xB (fQ_hasRead a0 6 M) (fun v23 => if v23 = 8 then (if ((fQ_fails a0 3 M) a0 12) = 0 then (if (fQ_is a0 63030 M) = 0 then (if (fQ_is a0 279109036 M) = 0 then (if (fQ_is a0 385495 M) = 0 then (xB (fQ_takes a0 6888374364 (fQ_fails a0 3 M)) (fun q_ => match q_ with | (v25, m25) => if v25 = 0 then (xB (fQ_asks a0 323717 m25) (fun m26 => xB (fQ_hasRead a0 1 m26) (fun v27 => xB (fQ_number2 a0 0 (xw32 (v27 - 1)) m26) (fun q_ => match q_ with | (v28, m28) => xB (fQ_cellHere a0 m28) (fun q_ => match q_ with | (v29, m29) => if (fQ_isGood a0 m29) = 0 then (some m29) else (xA (0 ≤ (xw32 (96 + v28)) ∧ (xw32 (96 + v28)) < 120) (some (xwr m29 (a0 + 11) (xw32 (96 + v28)) v29)))))))) else (xB (fQ_quarrelLine a0 m25) (fun m31 => some m31)))) else (xB (fQ_next a0 (fQ_fails a0 3 M)) (fun m32 => if (fQ_is a0 63030 M) = 0 then (if (fQ_is a0 279109036 M) = 0 then (xB (fQ_soupLine a0 m32) (fun m33 => some m33)) else (xB (fQ_sleepLine a0 m32) (fun m34 => some m34))) else (xB (fQ_manLine a0 m32) (fun m35 => some m35))))) else (xB (fQ_next a0 (fQ_fails a0 3 M)) (fun m36 => if (fQ_is a0 63030 M) = 0 then (if (fQ_is a0 279109036 M) = 0 then (xB (fQ_soupLine a0 m36) (fun m37 => some m37)) else (xB (fQ_sleepLine a0 m36) (fun m38 => some m38))) else (xB (fQ_manLine a0 m36) (fun m39 => some m39))))) else (xB (fQ_next a0 (fQ_fails a0 3 M)) (fun m40 => if (fQ_is a0 63030 M) = 0 then (if (fQ_is a0 279109036 M) = 0 then (xB (fQ_soupLine a0 m40) (fun m41 => some m41)) else (xB (fQ_sleepLine a0 m40) (fun m42 => some m42))) else (xB (fQ_manLine a0 m40) (fun m43 => some m43))))) else (some (fQ_fails a0 3 M))) else (if (M a0 12) = 0 then (if (fQ_is a0 63030 M) = 0 then (if (fQ_is a0 279109036 M) = 0 then (if (fQ_is a0 385495 M) = 0 then (xB (fQ_takes a0 6888374364 M) (fun q_ => match q_ with | (v44, m44) => if v44 = 0 then (xB (fQ_asks a0 323717 m44) (fun m45 => xB (fQ_hasRead a0 1 m45) (fun v46 => xB (fQ_number2 a0 0 (xw32 (v46 - 1)) m45) (fun q_ => match q_ with | (v47, m47) => xB (fQ_cellHere a0 m47) (fun q_ => match q_ with | (v48, m48) => if (fQ_isGood a0 m48) = 0 then (some m48) else (xA (0 ≤ (xw32 (96 + v47)) ∧ (xw32 (96 + v47)) < 120) (some (xwr m48 (a0 + 11) (xw32 (96 + v47)) v48)))))))) else (xB (fQ_quarrelLine a0 m44) (fun m50 => some m50)))) else (xB (fQ_next a0 M) (fun m51 => if (fQ_is a0 63030 M) = 0 then (if (fQ_is a0 279109036 M) = 0 then (xB (fQ_soupLine a0 m51) (fun m52 => some m52)) else (xB (fQ_sleepLine a0 m51) (fun m53 => some m53))) else (xB (fQ_manLine a0 m51) (fun m54 => some m54))))) else (xB (fQ_next a0 M) (fun m55 => if (fQ_is a0 63030 M) = 0 then (if (fQ_is a0 279109036 M) = 0 then (xB (fQ_soupLine a0 m55) (fun m56 => some m56)) else (xB (fQ_sleepLine a0 m55) (fun m57 => some m57))) else (xB (fQ_manLine a0 m55) (fun m58 => some m58))))) else (xB (fQ_next a0 M) (fun m59 => if (fQ_is a0 63030 M) = 0 then (if (fQ_is a0 279109036 M) = 0 then (xB (fQ_soupLine a0 m59) (fun m60 => some m60)) else (xB (fQ_sleepLine a0 m59) (fun m61 => some m61))) else (xB (fQ_manLine a0 m59) (fun m62 => some m62))))) else (some M))))) else (xB (fQ_hasRead a0 5 M) (fun v63 => if v63 = 8 then (if ((fQ_fails a0 3 M) a0 12) = 0 then (if (fQ_is a0 63030 M) = 0 then (if (fQ_is a0 279109036 M) = 0 then (if (fQ_is a0 385495 M) = 0 then (xB (fQ_takes a0 6888374364 (fQ_fails a0 3 M)) (fun q_ => match q_ with | (v65, m65) => if v65 = 0 then (xB (fQ_asks a0 323717 m65) (fun m66 => xB (fQ_hasRead a0 1 m66) (fun v67 => xB (fQ_number2 a0 0 (xw32 (v67 - 1)) m66) (fun q_ => match q_ with | (v68, m68) => xB (fQ_cellHere a0 m68) (fun q_ => match q_ with | (v69, m69) => if (fQ_isGood a0 m69) = 0 then (some m69) else (xA (0 ≤ (xw32 (96 + v68)) ∧ (xw32 (96 + v68)) < 120) (some (xwr m69 (a0 + 11) (xw32 (96 + v68)) v69)))))))) else (xB (fQ_quarrelLine a0 m65) (fun m71 => some m71)))) else (xB (fQ_next a0 (fQ_fails a0 3 M)) (fun m72 => if (fQ_is a0 63030 M) = 0 then (if (fQ_is a0 279109036 M) = 0 then (xB (fQ_soupLine a0 m72) (fun m73 => some m73)) else (xB (fQ_sleepLine a0 m72) (fun m74 => some m74))) else (xB (fQ_manLine a0 m72) (fun m75 => some m75))))) else (xB (fQ_next a0 (fQ_fails a0 3 M)) (fun m76 => if (fQ_is a0 63030 M) = 0 then (if (fQ_is a0 279109036 M) = 0 then (xB (fQ_soupLine a0 m76) (fun m77 => some m77)) else (xB (fQ_sleepLine a0 m76) (fun m78 => some m78))) else (xB (fQ_manLine a0 m76) (fun m79 => some m79))))) else (xB (fQ_next a0 (fQ_fails a0 3 M)) (fun m80 => if (fQ_is a0 63030 M) = 0 then (if (fQ_is a0 279109036 M) = 0 then (xB (fQ_soupLine a0 m80) (fun m81 => some m81)) else (xB (fQ_sleepLine a0 m80) (fun m82 => some m82))) else (xB (fQ_manLine a0 m80) (fun m83 => some m83))))) else (some (fQ_fails a0 3 M))) else (if (fQ_is a0 385495 M) = 0 then (if (M a0 12) = 0 then (if (fQ_is a0 63030 M) = 0 then (if (fQ_is a0 279109036 M) = 0 then (if (fQ_is a0 385495 M) = 0 then (xB (fQ_takes a0 6888374364 M) (fun q_ => match q_ with | (v84, m84) => if v84 = 0 then (xB (fQ_asks a0 323717 m84) (fun m85 => xB (fQ_hasRead a0 1 m85) (fun v86 => xB (fQ_number2 a0 0 (xw32 (v86 - 1)) m85) (fun q_ => match q_ with | (v87, m87) => xB (fQ_cellHere a0 m87) (fun q_ => match q_ with | (v88, m88) => if (fQ_isGood a0 m88) = 0 then (some m88) else (xA (0 ≤ (xw32 (96 + v87)) ∧ (xw32 (96 + v87)) < 120) (some (xwr m88 (a0 + 11) (xw32 (96 + v87)) v88)))))))) else (xB (fQ_quarrelLine a0 m84) (fun m90 => some m90)))) else (xB (fQ_next a0 M) (fun m91 => if (fQ_is a0 63030 M) = 0 then (if (fQ_is a0 279109036 M) = 0 then (xB (fQ_soupLine a0 m91) (fun m92 => some m92)) else (xB (fQ_sleepLine a0 m91) (fun m93 => some m93))) else (xB (fQ_manLine a0 m91) (fun m94 => some m94))))) else (xB (fQ_next a0 M) (fun m95 => if (fQ_is a0 63030 M) = 0 then (if (fQ_is a0 279109036 M) = 0 then (xB (fQ_soupLine a0 m95) (fun m96 => some m96)) else (xB (fQ_sleepLine a0 m95) (fun m97 => some m97))) else (xB (fQ_manLine a0 m95) (fun m98 => some m98))))) else (xB (fQ_next a0 M) (fun m99 => if (fQ_is a0 63030 M) = 0 then (if (fQ_is a0 279109036 M) = 0 then (xB (fQ_soupLine a0 m99) (fun m100 => some m100)) else (xB (fQ_sleepLine a0 m99) (fun m101 => some m101))) else (xB (fQ_manLine a0 m99) (fun m102 => some m102))))) else (some M)) else (xB (fQ_hasRead a0 6 M) (fun v103 => if v103 = 8 then (if ((fQ_fails a0 3 M) a0 12) = 0 then (if (fQ_is a0 63030 M) = 0 then (if (fQ_is a0 279109036 M) = 0 then (if (fQ_is a0 385495 M) = 0 then (xB (fQ_takes a0 6888374364 (fQ_fails a0 3 M)) (fun q_ => match q_ with | (v105, m105) => if v105 = 0 then (xB (fQ_asks a0 323717 m105) (fun m106 => xB (fQ_hasRead a0 1 m106) (fun v107 => xB (fQ_number2 a0 0 (xw32 (v107 - 1)) m106) (fun q_ => match q_ with | (v108, m108) => xB (fQ_cellHere a0 m108) (fun q_ => match q_ with | (v109, m109) => if (fQ_isGood a0 m109) = 0 then (some m109) else (xA (0 ≤ (xw32 (96 + v108)) ∧ (xw32 (96 + v108)) < 120) (some (xwr m109 (a0 + 11) (xw32 (96 + v108)) v109)))))))) else (xB (fQ_quarrelLine a0 m105) (fun m111 => some m111)))) else (xB (fQ_next a0 (fQ_fails a0 3 M)) (fun m112 => if (fQ_is a0 63030 M) = 0 then (if (fQ_is a0 279109036 M) = 0 then (xB (fQ_soupLine a0 m112) (fun m113 => some m113)) else (xB (fQ_sleepLine a0 m112) (fun m114 => some m114))) else (xB (fQ_manLine a0 m112) (fun m115 => some m115))))) else (xB (fQ_next a0 (fQ_fails a0 3 M)) (fun m116 => if (fQ_is a0 63030 M) = 0 then (if (fQ_is a0 279109036 M) = 0 then (xB (fQ_soupLine a0 m116) (fun m117 => some m117)) else (xB (fQ_sleepLine a0 m116) (fun m118 => some m118))) else (xB (fQ_manLine a0 m116) (fun m119 => some m119))))) else (xB (fQ_next a0 (fQ_fails a0 3 M)) (fun m120 => if (fQ_is a0 63030 M) = 0 then (if (fQ_is a0 279109036 M) = 0 then (xB (fQ_soupLine a0 m120) (fun m121 => some m121)) else (xB (fQ_sleepLine a0 m120) (fun m122 => some m122))) else (xB (fQ_manLine a0 m120) (fun m123 => some m123))))) else (some (fQ_fails a0 3 M))) else (if (M a0 12) = 0 then (if (fQ_is a0 63030 M) = 0 then (if (fQ_is a0 279109036 M) = 0 then (if (fQ_is a0 385495 M) = 0 then (xB (fQ_takes a0 6888374364 M) (fun q_ => match q_ with | (v124, m124) => if v124 = 0 then (xB (fQ_asks a0 323717 m124) (fun m125 => xB (fQ_hasRead a0 1 m125) (fun v126 => xB (fQ_number2 a0 0 (xw32 (v126 - 1)) m125) (fun q_ => match q_ with | (v127, m127) => xB (fQ_cellHere a0 m127) (fun q_ => match q_ with | (v128, m128) => if (fQ_isGood a0 m128) = 0 then (some m128) else (xA (0 ≤ (xw32 (96 + v127)) ∧ (xw32 (96 + v127)) < 120) (some (xwr m128 (a0 + 11) (xw32 (96 + v127)) v128)))))))) else (xB (fQ_quarrelLine a0 m124) (fun m130 => some m130)))) else (xB (fQ_next a0 M) (fun m131 => if (fQ_is a0 63030 M) = 0 then (if (fQ_is a0 279109036 M) = 0 then (xB (fQ_soupLine a0 m131) (fun m132 => some m132)) else (xB (fQ_sleepLine a0 m131) (fun m133 => some m133))) else (xB (fQ_manLine a0 m131) (fun m134 => some m134))))) else (xB (fQ_next a0 M) (fun m135 => if (fQ_is a0 63030 M) = 0 then (if (fQ_is a0 279109036 M) = 0 then (xB (fQ_soupLine a0 m135) (fun m136 => some m136)) else (xB (fQ_sleepLine a0 m135) (fun m137 => some m137))) else (xB (fQ_manLine a0 m135) (fun m138 => some m138))))) else (xB (fQ_next a0 M) (fun m139 => if (fQ_is a0 63030 M) = 0 then (if (fQ_is a0 279109036 M) = 0 then (xB (fQ_soupLine a0 m139) (fun m140 => some m140)) else (xB (fQ_sleepLine a0 m139) (fun m141 => some m141))) else (xB (fQ_manLine a0 m139) (fun m142 => some m142))))) else (some M)))))))) else (xB (fQ_hasRead a0 2 M) (fun v143 => xB (fQ_hasRead a0 0 M) (fun v144 => if v143 = v144 then (if ((fQ_fails a0 3 M) a0 12) = 0 then (if (fQ_is a0 63030 M) = 0 then (if (fQ_is a0 279109036 M) = 0 then (if (fQ_is a0 385495 M) = 0 then (xB (fQ_takes a0 6888374364 (fQ_fails a0 3 M)) (fun q_ => match q_ with | (v146, m146) => if v146 = 0 then (xB (fQ_asks a0 323717 m146) (fun m147 => xB (fQ_hasRead a0 1 m147) (fun v148 => xB (fQ_number2 a0 0 (xw32 (v148 - 1)) m147) (fun q_ => match q_ with | (v149, m149) => xB (fQ_cellHere a0 m149) (fun q_ => match q_ with | (v150, m150) => if (fQ_isGood a0 m150) = 0 then (some m150) else (xA (0 ≤ (xw32 (96 + v149)) ∧ (xw32 (96 + v149)) < 120) (some (xwr m150 (a0 + 11) (xw32 (96 + v149)) v150)))))))) else (xB (fQ_quarrelLine a0 m146) (fun m152 => some m152)))) else (xB (fQ_next a0 (fQ_fails a0 3 M)) (fun m153 => if (fQ_is a0 63030 M) = 0 then (if (fQ_is a0 279109036 M) = 0 then (xB (fQ_soupLine a0 m153) (fun m154 => some m154)) else (xB (fQ_sleepLine a0 m153) (fun m155 => some m155))) else (xB (fQ_manLine a0 m153) (fun m156 => some m156))))) else (xB (fQ_next a0 (fQ_fails a0 3 M)) (fun m157 => if (fQ_is a0 63030 M) = 0 then (if (fQ_is a0 279109036 M) = 0 then (xB (fQ_soupLine a0 m157) (fun m158 => some m158)) else (xB (fQ_sleepLine a0 m157) (fun m159 => some m159))) else (xB (fQ_manLine a0 m157) (fun m160 => some m160))))) else (xB (fQ_next a0 (fQ_fails a0 3 M)) (fun m161 => if (fQ_is a0 63030 M) = 0 then (if (fQ_is a0 279109036 M) = 0 then (xB (fQ_soupLine a0 m161) (fun m162 => some m162)) else (xB (fQ_sleepLine a0 m161) (fun m163 => some m163))) else (xB (fQ_manLine a0 m161) (fun m164 => some m164))))) else (some (fQ_fails a0 3 M))) else (if (fQ_is a0 279109036 M) = 0 then (if (fQ_is a0 385495 M) = 0 then (if (M a0 12) = 0 then (if (fQ_is a0 63030 M) = 0 then (if (fQ_is a0 279109036 M) = 0 then (if (fQ_is a0 385495 M) = 0 then (xB (fQ_takes a0 6888374364 M) (fun q_ => match q_ with | (v165, m165) => if v165 = 0 then (xB (fQ_asks a0 323717 m165) (fun m166 => xB (fQ_hasRead a0 1 m166) (fun v167 => xB (fQ_number2 a0 0 (xw32 (v167 - 1)) m166) (fun q_ => match q_ with | (v168, m168) => xB (fQ_cellHere a0 m168) (fun q_ => match q_ with | (v169, m169) => if (fQ_isGood a0 m169) = 0 then (some m169) else (xA (0 ≤ (xw32 (96 + v168)) ∧ (xw32 (96 + v168)) < 120) (some (xwr m169 (a0 + 11) (xw32 (96 + v168)) v169)))))))) else (xB (fQ_quarrelLine a0 m165) (fun m171 => some m171)))) else (xB (fQ_next a0 M) (fun m172 => if (fQ_is a0 63030 M) = 0 then (if (fQ_is a0 279109036 M) = 0 then (xB (fQ_soupLine a0 m172) (fun m173 => some m173)) else (xB (fQ_sleepLine a0 m172) (fun m174 => some m174))) else (xB (fQ_manLine a0 m172) (fun m175 => some m175))))) else (xB (fQ_next a0 M) (fun m176 => if (fQ_is a0 63030 M) = 0 then (if (fQ_is a0 279109036 M) = 0 then (xB (fQ_soupLine a0 m176) (fun m177 => some m177)) else (xB (fQ_sleepLine a0 m176) (fun m178 => some m178))) else (xB (fQ_manLine a0 m176) (fun m179 => some m179))))) else (xB (fQ_next a0 M) (fun m180 => if (fQ_is a0 63030 M) = 0 then (if (fQ_is a0 279109036 M) = 0 then (xB (fQ_soupLine a0 m180) (fun m181 => some m181)) else (xB (fQ_sleepLine a0 m180) (fun m182 => some m182))) else (xB (fQ_manLine a0 m180) (fun m183 => some m183))))) else (some M)) else (xB (fQ_hasRead a0 6 M) (fun v184 => if v184 = 8 then (if ((fQ_fails a0 3 M) a0 12) = 0 then (if (fQ_is a0 63030 M) = 0 then (if (fQ_is a0 279109036 M) = 0 then (if (fQ_is a0 385495 M) = 0 then (xB (fQ_takes a0 6888374364 (fQ_fails a0 3 M)) (fun q_ => match q_ with | (v186, m186) => if v186 = 0 then (xB (fQ_asks a0 323717 m186) (fun m187 => xB (fQ_hasRead a0 1 m187) (fun v188 => xB (fQ_number2 a0 0 (xw32 (v188 - 1)) m187) (fun q_ => match q_ with | (v189, m189) => xB (fQ_cellHere a0 m189) (fun q_ => match q_ with | (v190, m190) => if (fQ_isGood a0 m190) = 0 then (some m190) else (xA (0 ≤ (xw32 (96 + v189)) ∧ (xw32 (96 + v189)) < 120) (some (xwr m190 (a0 + 11) (xw32 (96 + v189)) v190)))))))) else (xB (fQ_quarrelLine a0 m186) (fun m192 => some m192)))) else (xB (fQ_next a0 (fQ_fails a0 3 M)) (fun m193 => if (fQ_is a0 63030 M) = 0 then (if (fQ_is a0 279109036 M) = 0 then (xB (fQ_soupLine a0 m193) (fun m194 => some m194)) else (xB (fQ_sleepLine a0 m193) (fun m195 => some m195))) else (xB (fQ_manLine a0 m193) (fun m196 => some m196))))) else (xB (fQ_next a0 (fQ_fails a0 3 M)) (fun m197 => if (fQ_is a0 63030 M) = 0 then (if (fQ_is a0 279109036 M) = 0 then (xB (fQ_soupLine a0 m197) (fun m198 => some m198)) else (xB (fQ_sleepLine a0 m197) (fun m199 => some m199))) else (xB (fQ_manLine a0 m197) (fun m200 => some m200))))) else (xB (fQ_next a0 (fQ_fails a0 3 M)) (fun m201 => if (fQ_is a0 63030 M) = 0 then (if (fQ_is a0 279109036 M) = 0 then (xB (fQ_soupLine a0 m201) (fun m202 => some m202)) else (xB (fQ_sleepLine a0 m201) (fun m203 => some m203))) else (xB (fQ_manLine a0 m201) (fun m204 => some m204))))) else (some (fQ_fails a0 3 M))) else (if (M a0 12) = 0 then (if (fQ_is a0 63030 M) = 0 then (if (fQ_is a0 279109036 M) = 0 then (if (fQ_is a0 385495 M) = 0 then (xB (fQ_takes a0 6888374364 M) (fun q_ => match q_ with | (v205, m205) => if v205 = 0 then (xB (fQ_asks a0 323717 m205) (fun m206 => xB (fQ_hasRead a0 1 m206) (fun v207 => xB (fQ_number2 a0 0 (xw32 (v207 - 1)) m206) (fun q_ => match q_ with | (v208, m208) => xB (fQ_cellHere a0 m208) (fun q_ => match q_ with | (v209, m209) => if (fQ_isGood a0 m209) = 0 then (some m209) else (xA (0 ≤ (xw32 (96 + v208)) ∧ (xw32 (96 + v208)) < 120) (some (xwr m209 (a0 + 11) (xw32 (96 + v208)) v209)))))))) else (xB (fQ_quarrelLine a0 m205) (fun m211 => some m211)))) else (xB (fQ_next a0 M) (fun m212 => if (fQ_is a0 63030 M) = 0 then (if (fQ_is a0 279109036 M) = 0 then (xB (fQ_soupLine a0 m212) (fun m213 => some m213)) else (xB (fQ_sleepLine a0 m212) (fun m214 => some m214))) else (xB (fQ_manLine a0 m212) (fun m215 => some m215))))) else (xB (fQ_next a0 M) (fun m216 => if (fQ_is a0 63030 M) = 0 then (if (fQ_is a0 279109036 M) = 0 then (xB (fQ_soupLine a0 m216) (fun m217 => some m217)) else (xB (fQ_sleepLine a0 m216) (fun m218 => some m218))) else (xB (fQ_manLine a0 m216) (fun m219 => some m219))))) else (xB (fQ_next a0 M) (fun m220 => if (fQ_is a0 63030 M) = 0 then (if (fQ_is a0 279109036 M) = 0 then (xB (fQ_soupLine a0 m220) (fun m221 => some m221)) else (xB (fQ_sleepLine a0 m220) (fun m222 => some m222))) else (xB (fQ_manLine a0 m220) (fun m223 => some m223))))) else (some M))))) else (xB (fQ_hasRead a0 5 M) (fun v224 => if v224 = 8 then (if ((fQ_fails a0 3 M) a0 12) = 0 then (if (fQ_is a0 63030 M) = 0 then (if (fQ_is a0 279109036 M) = 0 then (if (fQ_is a0 385495 M) = 0 then (xB (fQ_takes a0 6888374364 (fQ_fails a0 3 M)) (fun q_ => match q_ with | (v226, m226) => if v226 = 0 then (xB (fQ_asks a0 323717 m226) (fun m227 => xB (fQ_hasRead a0 1 m227) (fun v228 => xB (fQ_number2 a0 0 (xw32 (v228 - 1)) m227) (fun q_ => match q_ with | (v229, m229) => xB (fQ_cellHere a0 m229) (fun q_ => match q_ with | (v230, m230) => if (fQ_isGood a0 m230) = 0 then (some m230) else (xA (0 ≤ (xw32 (96 + v229)) ∧ (xw32 (96 + v229)) < 120) (some (xwr m230 (a0 + 11) (xw32 (96 + v229)) v230)))))))) else (xB (fQ_quarrelLine a0 m226) (fun m232 => some m232)))) else (xB (fQ_next a0 (fQ_fails a0 3 M)) (fun m233 => if (fQ_is a0 63030 M) = 0 then (if (fQ_is a0 279109036 M) = 0 then (xB (fQ_soupLine a0 m233) (fun m234 => some m234)) else (xB (fQ_sleepLine a0 m233) (fun m235 => some m235))) else (xB (fQ_manLine a0 m233) (fun m236 => some m236))))) else (xB (fQ_next a0 (fQ_fails a0 3 M)) (fun m237 => if (fQ_is a0 63030 M) = 0 then (if (fQ_is a0 279109036 M) = 0 then (xB (fQ_soupLine a0 m237) (fun m238 => some m238)) else (xB (fQ_sleepLine a0 m237) (fun m239 => some m239))) else (xB (fQ_manLine a0 m237) (fun m240 => some m240))))) else (xB (fQ_next a0 (fQ_fails a0 3 M)) (fun m241 => if (fQ_is a0 63030 M) = 0 then (if (fQ_is a0 279109036 M) = 0 then (xB (fQ_soupLine a0 m241) (fun m242 => some m242)) else (xB (fQ_sleepLine a0 m241) (fun m243 => some m243))) else (xB (fQ_manLine a0 m241) (fun m244 => some m244))))) else (some (fQ_fails a0 3 M))) else (if (fQ_is a0 385495 M) = 0 then (if (M a0 12) = 0 then (if (fQ_is a0 63030 M) = 0 then (if (fQ_is a0 279109036 M) = 0 then (if (fQ_is a0 385495 M) = 0 then (xB (fQ_takes a0 6888374364 M) (fun q_ => match q_ with | (v245, m245) => if v245 = 0 then (xB (fQ_asks a0 323717 m245) (fun m246 => xB (fQ_hasRead a0 1 m246) (fun v247 => xB (fQ_number2 a0 0 (xw32 (v247 - 1)) m246) (fun q_ => match q_ with | (v248, m248) => xB (fQ_cellHere a0 m248) (fun q_ => match q_ with | (v249, m249) => if (fQ_isGood a0 m249) = 0 then (some m249) else (xA (0 ≤ (xw32 (96 + v248)) ∧ (xw32 (96 + v248)) < 120) (some (xwr m249 (a0 + 11) (xw32 (96 + v248)) v249)))))))) else (xB (fQ_quarrelLine a0 m245) (fun m251 => some m251)))) else (xB (fQ_next a0 M) (fun m252 => if (fQ_is a0 63030 M) = 0 then (if (fQ_is a0 279109036 M) = 0 then (xB (fQ_soupLine a0 m252) (fun m253 => some m253)) else (xB (fQ_sleepLine a0 m252) (fun m254 => some m254))) else (xB (fQ_manLine a0 m252) (fun m255 => some m255))))) else (xB (fQ_next a0 M) (fun m256 => if (fQ_is a0 63030 M) = 0 then (if (fQ_is a0 279109036 M) = 0 then (xB (fQ_soupLine a0 m256) (fun m257 => some m257)) else (xB (fQ_sleepLine a0 m256) (fun m258 => some m258))) else (xB (fQ_manLine a0 m256) (fun m259 => some m259))))) else (xB (fQ_next a0 M) (fun m260 => if (fQ_is a0 63030 M) = 0 then (if (fQ_is a0 279109036 M) = 0 then (xB (fQ_soupLine a0 m260) (fun m261 => some m261)) else (xB (fQ_sleepLine a0 m260) (fun m262 => some m262))) else (xB (fQ_manLine a0 m260) (fun m263 => some m263))))) else (some M)) else (xB (fQ_hasRead a0 6 M) (fun v264 => if v264 = 8 then (if ((fQ_fails a0 3 M) a0 12) = 0 then (if (fQ_is a0 63030 M) = 0 then (if (fQ_is a0 279109036 M) = 0 then (if (fQ_is a0 385495 M) = 0 then (xB (fQ_takes a0 6888374364 (fQ_fails a0 3 M)) (fun q_ => match q_ with | (v266, m266) => if v266 = 0 then (xB (fQ_asks a0 323717 m266) (fun m267 => xB (fQ_hasRead a0 1 m267) (fun v268 => xB (fQ_number2 a0 0 (xw32 (v268 - 1)) m267) (fun q_ => match q_ with | (v269, m269) => xB (fQ_cellHere a0 m269) (fun q_ => match q_ with | (v270, m270) => if (fQ_isGood a0 m270) = 0 then (some m270) else (xA (0 ≤ (xw32 (96 + v269)) ∧ (xw32 (96 + v269)) < 120) (some (xwr m270 (a0 + 11) (xw32 (96 + v269)) v270)))))))) else (xB (fQ_quarrelLine a0 m266) (fun m272 => some m272)))) else (xB (fQ_next a0 (fQ_fails a0 3 M)) (fun m273 => if (fQ_is a0 63030 M) = 0 then (if (fQ_is a0 279109036 M) = 0 then (xB (fQ_soupLine a0 m273) (fun m274 => some m274)) else (xB (fQ_sleepLine a0 m273) (fun m275 => some m275))) else (xB (fQ_manLine a0 m273) (fun m276 => some m276))))) else (xB (fQ_next a0 (fQ_fails a0 3 M)) (fun m277 => if (fQ_is a0 63030 M) = 0 then (if (fQ_is a0 279109036 M) = 0 then (xB (fQ_soupLine a0 m277) (fun m278 => some m278)) else (xB (fQ_sleepLine a0 m277) (fun m279 => some m279))) else (xB (fQ_manLine a0 m277) (fun m280 => some m280))))) else (xB (fQ_next a0 (fQ_fails a0 3 M)) (fun m281 => if (fQ_is a0 63030 M) = 0 then (if (fQ_is a0 279109036 M) = 0 then (xB (fQ_soupLine a0 m281) (fun m282 => some m282)) else (xB (fQ_sleepLine a0 m281) (fun m283 => some m283))) else (xB (fQ_manLine a0 m281) (fun m284 => some m284))))) else (some (fQ_fails a0 3 M))) else (if (M a0 12) = 0 then (if (fQ_is a0 63030 M) = 0 then (if (fQ_is a0 279109036 M) = 0 then (if (fQ_is a0 385495 M) = 0 then (xB (fQ_takes a0 6888374364 M) (fun q_ => match q_ with | (v285, m285) => if v285 = 0 then (xB (fQ_asks a0 323717 m285) (fun m286 => xB (fQ_hasRead a0 1 m286) (fun v287 => xB (fQ_number2 a0 0 (xw32 (v287 - 1)) m286) (fun q_ => match q_ with | (v288, m288) => xB (fQ_cellHere a0 m288) (fun q_ => match q_ with | (v289, m289) => if (fQ_isGood a0 m289) = 0 then (some m289) else (xA (0 ≤ (xw32 (96 + v288)) ∧ (xw32 (96 + v288)) < 120) (some (xwr m289 (a0 + 11) (xw32 (96 + v288)) v289)))))))) else (xB (fQ_quarrelLine a0 m285) (fun m291 => some m291)))) else (xB (fQ_next a0 M) (fun m292 => if (fQ_is a0 63030 M) = 0 then (if (fQ_is a0 279109036 M) = 0 then (xB (fQ_soupLine a0 m292) (fun m293 => some m293)) else (xB (fQ_sleepLine a0 m292) (fun m294 => some m294))) else (xB (fQ_manLine a0 m292) (fun m295 => some m295))))) else (xB (fQ_next a0 M) (fun m296 => if (fQ_is a0 63030 M) = 0 then (if (fQ_is a0 279109036 M) = 0 then (xB (fQ_soupLine a0 m296) (fun m297 => some m297)) else (xB (fQ_sleepLine a0 m296) (fun m298 => some m298))) else (xB (fQ_manLine a0 m296) (fun m299 => some m299))))) else (xB (fQ_next a0 M) (fun m300 => if (fQ_is a0 63030 M) = 0 then (if (fQ_is a0 279109036 M) = 0 then (xB (fQ_soupLine a0 m300) (fun m301 => some m301)) else (xB (fQ_sleepLine a0 m300) (fun m302 => some m302))) else (xB (fQ_manLine a0 m300) (fun m303 => some m303))))) else (some M)))))))))))
theorem hQ_line (a0 : Int) (M : xM) (r : xM) (h : fQ_line a0 M = some r) : xEv (117, 0, [some (13, a0), none, none, none, none, none], [], M) (none, r) := by
  unfold fQ_line at h
  refine xEvG_n xml xfetch 2 (y := (117, 4, [some (13, a0), none, none, none, none, none], [(1, 63030), (13, a0)], M)) rfl trivial ?_
  refine xEvG_call xml xfetch (q := (some (0, fQ_is a0 63030 M), M)) rfl (hQ_is a0 63030 M _ rfl) ?_
  show xEv (117, 7, [some (13, a0), none, none, none, none, none], [(0, (fQ_is a0 63030 M))], M) _
  refine xEvG_n xml xfetch 3 (y := (117, 12, [some (13, a0), some (0, (fQ_is a0 63030 M)), none, none, none, none], [(1, 279109036), (13, a0)], M)) rfl trivial ?_
  refine xEvG_call xml xfetch (q := (some (0, fQ_is a0 279109036 M), M)) rfl (hQ_is a0 279109036 M _ rfl) ?_
  show xEv (117, 15, [some (13, a0), some (0, (fQ_is a0 63030 M)), none, none, none, none], [(0, (fQ_is a0 279109036 M))], M) _
  refine xEvG_n xml xfetch 3 (y := (117, 20, [some (13, a0), some (0, (fQ_is a0 63030 M)), some (0, (fQ_is a0 279109036 M)), none, none, none], [(1, 385495), (13, a0)], M)) rfl trivial ?_
  refine xEvG_call xml xfetch (q := (some (0, fQ_is a0 385495 M), M)) rfl (hQ_is a0 385495 M _ rfl) ?_
  show xEv (117, 23, [some (13, a0), some (0, (fQ_is a0 63030 M)), some (0, (fQ_is a0 279109036 M)), none, none, none], [(0, (fQ_is a0 385495 M))], M) _
  refine xEvG_n xml xfetch 3 (y := (117, if (fQ_is a0 63030 M) = 0 then 41 else 28, [some (13, a0), some (0, (fQ_is a0 63030 M)), some (0, (fQ_is a0 279109036 M)), some (0, (fQ_is a0 385495 M)), none, none], [], M)) rfl trivial ?_
  refine xEvG_br xml xfetch (fun c_ => ?_) (fun c_ => ?_)
  · have h := xif_t c_ h
    refine xEvG_n xml xfetch 2 (y := (117, if (fQ_is a0 279109036 M) = 0 then 55 else 45, [some (13, a0), some (0, (fQ_is a0 63030 M)), some (0, (fQ_is a0 279109036 M)), some (0, (fQ_is a0 385495 M)), none, none], [], M)) rfl trivial ?_
    refine xEvG_br xml xfetch (fun c_ => ?_) (fun c_ => ?_)
    · have h := xif_t c_ h
      refine xEvG_n xml xfetch 2 (y := (117, if (fQ_is a0 385495 M) = 0 then 75 else 59, [some (13, a0), some (0, (fQ_is a0 63030 M)), some (0, (fQ_is a0 279109036 M)), some (0, (fQ_is a0 385495 M)), none, none], [], M)) rfl trivial ?_
      refine xEvG_br xml xfetch (fun c_ => ?_) (fun c_ => ?_)
      · have h := xif_t c_ h
        refine xEvG_n xml xfetch 3 (y := (117, if (M a0 12) = 0 then 83 else 82, [some (13, a0), some (0, (fQ_is a0 63030 M)), some (0, (fQ_is a0 279109036 M)), some (0, (fQ_is a0 385495 M)), none, none], [], M)) rfl trivial ?_
        refine xEvG_br xml xfetch (fun c_ => ?_) (fun c_ => ?_)
        · have h := xif_t c_ h
          refine xEvG_n xml xfetch 2 (y := (117, if (fQ_is a0 63030 M) = 0 then 87 else 95, [some (13, a0), some (0, (fQ_is a0 63030 M)), some (0, (fQ_is a0 279109036 M)), some (0, (fQ_is a0 385495 M)), none, none], [], M)) rfl trivial ?_
          refine xEvG_br xml xfetch (fun c_ => ?_) (fun c_ => ?_)
          · have h := xif_t c_ h
            refine xEvG_n xml xfetch 2 (y := (117, if (fQ_is a0 279109036 M) = 0 then 91 else 95, [some (13, a0), some (0, (fQ_is a0 63030 M)), some (0, (fQ_is a0 279109036 M)), some (0, (fQ_is a0 385495 M)), none, none], [], M)) rfl trivial ?_
            refine xEvG_br xml xfetch (fun c_ => ?_) (fun c_ => ?_)
            · have h := xif_t c_ h
              refine xEvG_n xml xfetch 2 (y := (117, if (fQ_is a0 385495 M) = 0 then 128 else 95, [some (13, a0), some (0, (fQ_is a0 63030 M)), some (0, (fQ_is a0 279109036 M)), some (0, (fQ_is a0 385495 M)), none, none], [], M)) rfl trivial ?_
              refine xEvG_br xml xfetch (fun c_ => ?_) (fun c_ => ?_)
              · have h := xif_t c_ h
                refine xEvG_n xml xfetch 2 (y := (117, 132, [some (13, a0), some (0, (fQ_is a0 63030 M)), some (0, (fQ_is a0 279109036 M)), some (0, (fQ_is a0 385495 M)), none, none], [(1, 6888374364), (13, a0)], M)) rfl trivial ?_
                obtain ⟨⟨v4, m4⟩, e_, h⟩ := xB_t h
                refine xEvG_call xml xfetch (q := (some (0, v4), m4)) rfl (hQ_takes a0 6888374364 M _ e_) ?_
                show xEv (117, 135, [some (13, a0), some (0, (fQ_is a0 63030 M)), some (0, (fQ_is a0 279109036 M)), some (0, (fQ_is a0 385495 M)), none, none], [(0, v4)], m4) _
                refine xEvG_n xml xfetch 1 (y := (117, if v4 = 0 then 145 else 138, [some (13, a0), some (0, (fQ_is a0 63030 M)), some (0, (fQ_is a0 279109036 M)), some (0, (fQ_is a0 385495 M)), none, none], [], m4)) rfl trivial ?_
                refine xEvG_br xml xfetch (fun c_ => ?_) (fun c_ => ?_)
                · have h := xif_t c_ h
                  refine xEvG_n xml xfetch 2 (y := (117, 149, [some (13, a0), some (0, (fQ_is a0 63030 M)), some (0, (fQ_is a0 279109036 M)), some (0, (fQ_is a0 385495 M)), none, none], [(1, 323717), (13, a0)], m4)) rfl trivial ?_
                  obtain ⟨m5, e_, h⟩ := xB_t h
                  refine xEvG_call xml xfetch (q := (none, m5)) rfl (hQ_asks a0 323717 m4 _ e_) ?_
                  show xEv (117, 152, [some (13, a0), some (0, (fQ_is a0 63030 M)), some (0, (fQ_is a0 279109036 M)), some (0, (fQ_is a0 385495 M)), none, none], [], m5) _
                  refine xEvG_n xml xfetch 4 (y := (117, 156, [some (13, a0), some (0, (fQ_is a0 63030 M)), some (0, (fQ_is a0 279109036 M)), some (0, (fQ_is a0 385495 M)), none, none], [(0, 1), (13, a0), (0, 0), (13, a0)], m5)) rfl trivial ?_
                  obtain ⟨v6, e_, h⟩ := xB_t h
                  refine xEvG_call xml xfetch (q := (some (0, v6), m5)) rfl (hQ_hasRead a0 1 m5 _ e_) ?_
                  show xEv (117, 159, [some (13, a0), some (0, (fQ_is a0 63030 M)), some (0, (fQ_is a0 279109036 M)), some (0, (fQ_is a0 385495 M)), none, none], [(0, v6), (0, 0), (13, a0)], m5) _
                  refine xEvG_n xml xfetch 2 (y := (117, 161, [some (13, a0), some (0, (fQ_is a0 63030 M)), some (0, (fQ_is a0 279109036 M)), some (0, (fQ_is a0 385495 M)), none, none], [(0, (xw32 (v6 - 1))), (0, 0), (13, a0)], m5)) rfl trivial ?_
                  obtain ⟨⟨v7, m7⟩, e_, h⟩ := xB_t h
                  refine xEvG_call xml xfetch (q := (some (0, v7), m7)) rfl (hQ_number2 a0 0 (xw32 (v6 - 1)) m5 _ e_) ?_
                  show xEv (117, 164, [some (13, a0), some (0, (fQ_is a0 63030 M)), some (0, (fQ_is a0 279109036 M)), some (0, (fQ_is a0 385495 M)), none, none], [(0, v7)], m7) _
                  refine xEvG_n xml xfetch 2 (y := (117, 167, [some (13, a0), some (0, (fQ_is a0 63030 M)), some (0, (fQ_is a0 279109036 M)), some (0, (fQ_is a0 385495 M)), some (0, v7), none], [(13, a0)], m7)) rfl trivial ?_
                  obtain ⟨⟨v8, m8⟩, e_, h⟩ := xB_t h
                  refine xEvG_call xml xfetch (q := (some (0, v8), m8)) rfl (hQ_cellHere a0 m7 _ e_) ?_
                  show xEv (117, 170, [some (13, a0), some (0, (fQ_is a0 63030 M)), some (0, (fQ_is a0 279109036 M)), some (0, (fQ_is a0 385495 M)), some (0, v7), none], [(0, v8)], m8) _
                  refine xEvG_n xml xfetch 2 (y := (117, 173, [some (13, a0), some (0, (fQ_is a0 63030 M)), some (0, (fQ_is a0 279109036 M)), some (0, (fQ_is a0 385495 M)), some (0, v7), some (0, v8)], [(13, a0)], m8)) rfl trivial ?_
                  refine xEvG_call xml xfetch (q := (some (0, fQ_isGood a0 m8), m8)) rfl (hQ_isGood a0 m8 _ rfl) ?_
                  show xEv (117, 176, [some (13, a0), some (0, (fQ_is a0 63030 M)), some (0, (fQ_is a0 279109036 M)), some (0, (fQ_is a0 385495 M)), some (0, v7), some (0, v8)], [(0, (fQ_isGood a0 m8))], m8) _
                  refine xEvG_n xml xfetch 1 (y := (117, if (fQ_isGood a0 m8) = 0 then 191 else 179, [some (13, a0), some (0, (fQ_is a0 63030 M)), some (0, (fQ_is a0 279109036 M)), some (0, (fQ_is a0 385495 M)), some (0, v7), some (0, v8)], [], m8)) rfl trivial ?_
                  refine xEvG_br xml xfetch (fun c_ => ?_) (fun c_ => ?_)
                  · have h := xif_t c_ h
                    cases h
                    exact xEvG_ret xml xfetch rfl
                  · have h := xif_f c_ h
                    have a0_ := (xA_t h).1
                    have h := (xA_t h).2
                    refine xEvG_n xml xfetch 7 (y := (117, 191, [some (13, a0), some (0, (fQ_is a0 63030 M)), some (0, (fQ_is a0 279109036 M)), some (0, (fQ_is a0 385495 M)), some (0, v7), some (0, v8)], [], (xwr m8 (a0 + 11) (xw32 (96 + v7)) v8))) rfl ⟨a0_, trivial⟩ ?_
                    cases h
                    exact xEvG_ret xml xfetch rfl
                · have h := xif_f c_ h
                  refine xEvG_n xml xfetch 1 (y := (117, 139, [some (13, a0), some (0, (fQ_is a0 63030 M)), some (0, (fQ_is a0 279109036 M)), some (0, (fQ_is a0 385495 M)), none, none], [(13, a0)], m4)) rfl trivial ?_
                  obtain ⟨m10, e_, h⟩ := xB_t h
                  refine xEvG_call xml xfetch (q := (none, m10)) rfl (hQ_quarrelLine a0 m4 _ e_) ?_
                  show xEv (117, 142, [some (13, a0), some (0, (fQ_is a0 63030 M)), some (0, (fQ_is a0 279109036 M)), some (0, (fQ_is a0 385495 M)), none, none], [], m10) _
                  refine xEvG_n xml xfetch 1 (y := (117, 191, [some (13, a0), some (0, (fQ_is a0 63030 M)), some (0, (fQ_is a0 279109036 M)), some (0, (fQ_is a0 385495 M)), none, none], [], m10)) rfl trivial ?_
                  cases h
                  exact xEvG_ret xml xfetch rfl
              · have h := xif_f c_ h
                refine xEvG_n xml xfetch 1 (y := (117, 96, [some (13, a0), some (0, (fQ_is a0 63030 M)), some (0, (fQ_is a0 279109036 M)), some (0, (fQ_is a0 385495 M)), none, none], [(13, a0)], M)) rfl trivial ?_
                obtain ⟨m11, e_, h⟩ := xB_t h
                refine xEvG_call xml xfetch (q := (none, m11)) rfl (hQ_next a0 M _ e_) ?_
                show xEv (117, 99, [some (13, a0), some (0, (fQ_is a0 63030 M)), some (0, (fQ_is a0 279109036 M)), some (0, (fQ_is a0 385495 M)), none, none], [], m11) _
                refine xEvG_n xml xfetch 2 (y := (117, if (fQ_is a0 63030 M) = 0 then 110 else 103, [some (13, a0), some (0, (fQ_is a0 63030 M)), some (0, (fQ_is a0 279109036 M)), some (0, (fQ_is a0 385495 M)), none, none], [], m11)) rfl trivial ?_
                refine xEvG_br xml xfetch (fun c_ => ?_) (fun c_ => ?_)
                · have h := xif_t c_ h
                  refine xEvG_n xml xfetch 2 (y := (117, if (fQ_is a0 279109036 M) = 0 then 121 else 114, [some (13, a0), some (0, (fQ_is a0 63030 M)), some (0, (fQ_is a0 279109036 M)), some (0, (fQ_is a0 385495 M)), none, none], [], m11)) rfl trivial ?_
                  refine xEvG_br xml xfetch (fun c_ => ?_) (fun c_ => ?_)
                  · have h := xif_t c_ h
                    refine xEvG_n xml xfetch 1 (y := (117, 122, [some (13, a0), some (0, (fQ_is a0 63030 M)), some (0, (fQ_is a0 279109036 M)), some (0, (fQ_is a0 385495 M)), none, none], [(13, a0)], m11)) rfl trivial ?_
                    obtain ⟨m12, e_, h⟩ := xB_t h
                    refine xEvG_call xml xfetch (q := (none, m12)) rfl (hQ_soupLine a0 m11 _ e_) ?_
                    show xEv (117, 125, [some (13, a0), some (0, (fQ_is a0 63030 M)), some (0, (fQ_is a0 279109036 M)), some (0, (fQ_is a0 385495 M)), none, none], [], m12) _
                    refine xEvG_n xml xfetch 1 (y := (117, 191, [some (13, a0), some (0, (fQ_is a0 63030 M)), some (0, (fQ_is a0 279109036 M)), some (0, (fQ_is a0 385495 M)), none, none], [], m12)) rfl trivial ?_
                    cases h
                    exact xEvG_ret xml xfetch rfl
                  · have h := xif_f c_ h
                    refine xEvG_n xml xfetch 1 (y := (117, 115, [some (13, a0), some (0, (fQ_is a0 63030 M)), some (0, (fQ_is a0 279109036 M)), some (0, (fQ_is a0 385495 M)), none, none], [(13, a0)], m11)) rfl trivial ?_
                    obtain ⟨m13, e_, h⟩ := xB_t h
                    refine xEvG_call xml xfetch (q := (none, m13)) rfl (hQ_sleepLine a0 m11 _ e_) ?_
                    show xEv (117, 118, [some (13, a0), some (0, (fQ_is a0 63030 M)), some (0, (fQ_is a0 279109036 M)), some (0, (fQ_is a0 385495 M)), none, none], [], m13) _
                    refine xEvG_n xml xfetch 1 (y := (117, 191, [some (13, a0), some (0, (fQ_is a0 63030 M)), some (0, (fQ_is a0 279109036 M)), some (0, (fQ_is a0 385495 M)), none, none], [], m13)) rfl trivial ?_
                    cases h
                    exact xEvG_ret xml xfetch rfl
                · have h := xif_f c_ h
                  refine xEvG_n xml xfetch 1 (y := (117, 104, [some (13, a0), some (0, (fQ_is a0 63030 M)), some (0, (fQ_is a0 279109036 M)), some (0, (fQ_is a0 385495 M)), none, none], [(13, a0)], m11)) rfl trivial ?_
                  obtain ⟨m14, e_, h⟩ := xB_t h
                  refine xEvG_call xml xfetch (q := (none, m14)) rfl (hQ_manLine a0 m11 _ e_) ?_
                  show xEv (117, 107, [some (13, a0), some (0, (fQ_is a0 63030 M)), some (0, (fQ_is a0 279109036 M)), some (0, (fQ_is a0 385495 M)), none, none], [], m14) _
                  refine xEvG_n xml xfetch 1 (y := (117, 191, [some (13, a0), some (0, (fQ_is a0 63030 M)), some (0, (fQ_is a0 279109036 M)), some (0, (fQ_is a0 385495 M)), none, none], [], m14)) rfl trivial ?_
                  cases h
                  exact xEvG_ret xml xfetch rfl
            · have h := xif_f c_ h
              refine xEvG_n xml xfetch 1 (y := (117, 96, [some (13, a0), some (0, (fQ_is a0 63030 M)), some (0, (fQ_is a0 279109036 M)), some (0, (fQ_is a0 385495 M)), none, none], [(13, a0)], M)) rfl trivial ?_
              obtain ⟨m15, e_, h⟩ := xB_t h
              refine xEvG_call xml xfetch (q := (none, m15)) rfl (hQ_next a0 M _ e_) ?_
              show xEv (117, 99, [some (13, a0), some (0, (fQ_is a0 63030 M)), some (0, (fQ_is a0 279109036 M)), some (0, (fQ_is a0 385495 M)), none, none], [], m15) _
              refine xEvG_n xml xfetch 2 (y := (117, if (fQ_is a0 63030 M) = 0 then 110 else 103, [some (13, a0), some (0, (fQ_is a0 63030 M)), some (0, (fQ_is a0 279109036 M)), some (0, (fQ_is a0 385495 M)), none, none], [], m15)) rfl trivial ?_
              refine xEvG_br xml xfetch (fun c_ => ?_) (fun c_ => ?_)
              · have h := xif_t c_ h
                refine xEvG_n xml xfetch 2 (y := (117, if (fQ_is a0 279109036 M) = 0 then 121 else 114, [some (13, a0), some (0, (fQ_is a0 63030 M)), some (0, (fQ_is a0 279109036 M)), some (0, (fQ_is a0 385495 M)), none, none], [], m15)) rfl trivial ?_
                refine xEvG_br xml xfetch (fun c_ => ?_) (fun c_ => ?_)
                · have h := xif_t c_ h
                  refine xEvG_n xml xfetch 1 (y := (117, 122, [some (13, a0), some (0, (fQ_is a0 63030 M)), some (0, (fQ_is a0 279109036 M)), some (0, (fQ_is a0 385495 M)), none, none], [(13, a0)], m15)) rfl trivial ?_
                  obtain ⟨m16, e_, h⟩ := xB_t h
                  refine xEvG_call xml xfetch (q := (none, m16)) rfl (hQ_soupLine a0 m15 _ e_) ?_
                  show xEv (117, 125, [some (13, a0), some (0, (fQ_is a0 63030 M)), some (0, (fQ_is a0 279109036 M)), some (0, (fQ_is a0 385495 M)), none, none], [], m16) _
                  refine xEvG_n xml xfetch 1 (y := (117, 191, [some (13, a0), some (0, (fQ_is a0 63030 M)), some (0, (fQ_is a0 279109036 M)), some (0, (fQ_is a0 385495 M)), none, none], [], m16)) rfl trivial ?_
                  cases h
                  exact xEvG_ret xml xfetch rfl
                · have h := xif_f c_ h
                  refine xEvG_n xml xfetch 1 (y := (117, 115, [some (13, a0), some (0, (fQ_is a0 63030 M)), some (0, (fQ_is a0 279109036 M)), some (0, (fQ_is a0 385495 M)), none, none], [(13, a0)], m15)) rfl trivial ?_
                  obtain ⟨m17, e_, h⟩ := xB_t h
                  refine xEvG_call xml xfetch (q := (none, m17)) rfl (hQ_sleepLine a0 m15 _ e_) ?_
                  show xEv (117, 118, [some (13, a0), some (0, (fQ_is a0 63030 M)), some (0, (fQ_is a0 279109036 M)), some (0, (fQ_is a0 385495 M)), none, none], [], m17) _
                  refine xEvG_n xml xfetch 1 (y := (117, 191, [some (13, a0), some (0, (fQ_is a0 63030 M)), some (0, (fQ_is a0 279109036 M)), some (0, (fQ_is a0 385495 M)), none, none], [], m17)) rfl trivial ?_
                  cases h
                  exact xEvG_ret xml xfetch rfl
              · have h := xif_f c_ h
                refine xEvG_n xml xfetch 1 (y := (117, 104, [some (13, a0), some (0, (fQ_is a0 63030 M)), some (0, (fQ_is a0 279109036 M)), some (0, (fQ_is a0 385495 M)), none, none], [(13, a0)], m15)) rfl trivial ?_
                obtain ⟨m18, e_, h⟩ := xB_t h
                refine xEvG_call xml xfetch (q := (none, m18)) rfl (hQ_manLine a0 m15 _ e_) ?_
                show xEv (117, 107, [some (13, a0), some (0, (fQ_is a0 63030 M)), some (0, (fQ_is a0 279109036 M)), some (0, (fQ_is a0 385495 M)), none, none], [], m18) _
                refine xEvG_n xml xfetch 1 (y := (117, 191, [some (13, a0), some (0, (fQ_is a0 63030 M)), some (0, (fQ_is a0 279109036 M)), some (0, (fQ_is a0 385495 M)), none, none], [], m18)) rfl trivial ?_
                cases h
                exact xEvG_ret xml xfetch rfl
          · have h := xif_f c_ h
            refine xEvG_n xml xfetch 1 (y := (117, 96, [some (13, a0), some (0, (fQ_is a0 63030 M)), some (0, (fQ_is a0 279109036 M)), some (0, (fQ_is a0 385495 M)), none, none], [(13, a0)], M)) rfl trivial ?_
            obtain ⟨m19, e_, h⟩ := xB_t h
            refine xEvG_call xml xfetch (q := (none, m19)) rfl (hQ_next a0 M _ e_) ?_
            show xEv (117, 99, [some (13, a0), some (0, (fQ_is a0 63030 M)), some (0, (fQ_is a0 279109036 M)), some (0, (fQ_is a0 385495 M)), none, none], [], m19) _
            refine xEvG_n xml xfetch 2 (y := (117, if (fQ_is a0 63030 M) = 0 then 110 else 103, [some (13, a0), some (0, (fQ_is a0 63030 M)), some (0, (fQ_is a0 279109036 M)), some (0, (fQ_is a0 385495 M)), none, none], [], m19)) rfl trivial ?_
            refine xEvG_br xml xfetch (fun c_ => ?_) (fun c_ => ?_)
            · have h := xif_t c_ h
              refine xEvG_n xml xfetch 2 (y := (117, if (fQ_is a0 279109036 M) = 0 then 121 else 114, [some (13, a0), some (0, (fQ_is a0 63030 M)), some (0, (fQ_is a0 279109036 M)), some (0, (fQ_is a0 385495 M)), none, none], [], m19)) rfl trivial ?_
              refine xEvG_br xml xfetch (fun c_ => ?_) (fun c_ => ?_)
              · have h := xif_t c_ h
                refine xEvG_n xml xfetch 1 (y := (117, 122, [some (13, a0), some (0, (fQ_is a0 63030 M)), some (0, (fQ_is a0 279109036 M)), some (0, (fQ_is a0 385495 M)), none, none], [(13, a0)], m19)) rfl trivial ?_
                obtain ⟨m20, e_, h⟩ := xB_t h
                refine xEvG_call xml xfetch (q := (none, m20)) rfl (hQ_soupLine a0 m19 _ e_) ?_
                show xEv (117, 125, [some (13, a0), some (0, (fQ_is a0 63030 M)), some (0, (fQ_is a0 279109036 M)), some (0, (fQ_is a0 385495 M)), none, none], [], m20) _
                refine xEvG_n xml xfetch 1 (y := (117, 191, [some (13, a0), some (0, (fQ_is a0 63030 M)), some (0, (fQ_is a0 279109036 M)), some (0, (fQ_is a0 385495 M)), none, none], [], m20)) rfl trivial ?_
                cases h
                exact xEvG_ret xml xfetch rfl
              · have h := xif_f c_ h
                refine xEvG_n xml xfetch 1 (y := (117, 115, [some (13, a0), some (0, (fQ_is a0 63030 M)), some (0, (fQ_is a0 279109036 M)), some (0, (fQ_is a0 385495 M)), none, none], [(13, a0)], m19)) rfl trivial ?_
                obtain ⟨m21, e_, h⟩ := xB_t h
                refine xEvG_call xml xfetch (q := (none, m21)) rfl (hQ_sleepLine a0 m19 _ e_) ?_
                show xEv (117, 118, [some (13, a0), some (0, (fQ_is a0 63030 M)), some (0, (fQ_is a0 279109036 M)), some (0, (fQ_is a0 385495 M)), none, none], [], m21) _
                refine xEvG_n xml xfetch 1 (y := (117, 191, [some (13, a0), some (0, (fQ_is a0 63030 M)), some (0, (fQ_is a0 279109036 M)), some (0, (fQ_is a0 385495 M)), none, none], [], m21)) rfl trivial ?_
                cases h
                exact xEvG_ret xml xfetch rfl
            · have h := xif_f c_ h
              refine xEvG_n xml xfetch 1 (y := (117, 104, [some (13, a0), some (0, (fQ_is a0 63030 M)), some (0, (fQ_is a0 279109036 M)), some (0, (fQ_is a0 385495 M)), none, none], [(13, a0)], m19)) rfl trivial ?_
              obtain ⟨m22, e_, h⟩ := xB_t h
              refine xEvG_call xml xfetch (q := (none, m22)) rfl (hQ_manLine a0 m19 _ e_) ?_
              show xEv (117, 107, [some (13, a0), some (0, (fQ_is a0 63030 M)), some (0, (fQ_is a0 279109036 M)), some (0, (fQ_is a0 385495 M)), none, none], [], m22) _
              refine xEvG_n xml xfetch 1 (y := (117, 191, [some (13, a0), some (0, (fQ_is a0 63030 M)), some (0, (fQ_is a0 279109036 M)), some (0, (fQ_is a0 385495 M)), none, none], [], m22)) rfl trivial ?_
              cases h
              exact xEvG_ret xml xfetch rfl
        · have h := xif_f c_ h
          cases h
          exact xEvG_ret xml xfetch rfl
      · have h := xif_f c_ h
        refine xEvG_n xml xfetch 2 (y := (117, 62, [some (13, a0), some (0, (fQ_is a0 63030 M)), some (0, (fQ_is a0 279109036 M)), some (0, (fQ_is a0 385495 M)), none, none], [(0, 6), (13, a0)], M)) rfl trivial ?_
        obtain ⟨v23, e_, h⟩ := xB_t h
        refine xEvG_call xml xfetch (q := (some (0, v23), M)) rfl (hQ_hasRead a0 6 M _ e_) ?_
        show xEv (117, 65, [some (13, a0), some (0, (fQ_is a0 63030 M)), some (0, (fQ_is a0 279109036 M)), some (0, (fQ_is a0 385495 M)), none, none], [(0, v23)], M) _
        refine xEvG_n xml xfetch 2 (y := (117, if v23 = 8 then 70 else 75, [some (13, a0), some (0, (fQ_is a0 63030 M)), some (0, (fQ_is a0 279109036 M)), some (0, (fQ_is a0 385495 M)), none, none], [], M)) rfl trivial ?_
        refine xEvG_br xml xfetch (fun c_ => ?_) (fun c_ => ?_)
        · have h := xif_t c_ h
          refine xEvG_n xml xfetch 2 (y := (117, 72, [some (13, a0), some (0, (fQ_is a0 63030 M)), some (0, (fQ_is a0 279109036 M)), some (0, (fQ_is a0 385495 M)), none, none], [(0, 3), (13, a0)], M)) rfl trivial ?_
          refine xEvG_call xml xfetch (q := (none, fQ_fails a0 3 M)) rfl (hQ_fails a0 3 M _ rfl) ?_
          show xEv (117, 75, [some (13, a0), some (0, (fQ_is a0 63030 M)), some (0, (fQ_is a0 279109036 M)), some (0, (fQ_is a0 385495 M)), none, none], [], (fQ_fails a0 3 M)) _
          refine xEvG_n xml xfetch 3 (y := (117, if ((fQ_fails a0 3 M) a0 12) = 0 then 83 else 82, [some (13, a0), some (0, (fQ_is a0 63030 M)), some (0, (fQ_is a0 279109036 M)), some (0, (fQ_is a0 385495 M)), none, none], [], (fQ_fails a0 3 M))) rfl trivial ?_
          refine xEvG_br xml xfetch (fun c_ => ?_) (fun c_ => ?_)
          · have h := xif_t c_ h
            refine xEvG_n xml xfetch 2 (y := (117, if (fQ_is a0 63030 M) = 0 then 87 else 95, [some (13, a0), some (0, (fQ_is a0 63030 M)), some (0, (fQ_is a0 279109036 M)), some (0, (fQ_is a0 385495 M)), none, none], [], (fQ_fails a0 3 M))) rfl trivial ?_
            refine xEvG_br xml xfetch (fun c_ => ?_) (fun c_ => ?_)
            · have h := xif_t c_ h
              refine xEvG_n xml xfetch 2 (y := (117, if (fQ_is a0 279109036 M) = 0 then 91 else 95, [some (13, a0), some (0, (fQ_is a0 63030 M)), some (0, (fQ_is a0 279109036 M)), some (0, (fQ_is a0 385495 M)), none, none], [], (fQ_fails a0 3 M))) rfl trivial ?_
              refine xEvG_br xml xfetch (fun c_ => ?_) (fun c_ => ?_)
              · have h := xif_t c_ h
                refine xEvG_n xml xfetch 2 (y := (117, if (fQ_is a0 385495 M) = 0 then 128 else 95, [some (13, a0), some (0, (fQ_is a0 63030 M)), some (0, (fQ_is a0 279109036 M)), some (0, (fQ_is a0 385495 M)), none, none], [], (fQ_fails a0 3 M))) rfl trivial ?_
                refine xEvG_br xml xfetch (fun c_ => ?_) (fun c_ => ?_)
                · have h := xif_t c_ h
                  refine xEvG_n xml xfetch 2 (y := (117, 132, [some (13, a0), some (0, (fQ_is a0 63030 M)), some (0, (fQ_is a0 279109036 M)), some (0, (fQ_is a0 385495 M)), none, none], [(1, 6888374364), (13, a0)], (fQ_fails a0 3 M))) rfl trivial ?_
                  obtain ⟨⟨v25, m25⟩, e_, h⟩ := xB_t h
                  refine xEvG_call xml xfetch (q := (some (0, v25), m25)) rfl (hQ_takes a0 6888374364 (fQ_fails a0 3 M) _ e_) ?_
                  show xEv (117, 135, [some (13, a0), some (0, (fQ_is a0 63030 M)), some (0, (fQ_is a0 279109036 M)), some (0, (fQ_is a0 385495 M)), none, none], [(0, v25)], m25) _
                  refine xEvG_n xml xfetch 1 (y := (117, if v25 = 0 then 145 else 138, [some (13, a0), some (0, (fQ_is a0 63030 M)), some (0, (fQ_is a0 279109036 M)), some (0, (fQ_is a0 385495 M)), none, none], [], m25)) rfl trivial ?_
                  refine xEvG_br xml xfetch (fun c_ => ?_) (fun c_ => ?_)
                  · have h := xif_t c_ h
                    refine xEvG_n xml xfetch 2 (y := (117, 149, [some (13, a0), some (0, (fQ_is a0 63030 M)), some (0, (fQ_is a0 279109036 M)), some (0, (fQ_is a0 385495 M)), none, none], [(1, 323717), (13, a0)], m25)) rfl trivial ?_
                    obtain ⟨m26, e_, h⟩ := xB_t h
                    refine xEvG_call xml xfetch (q := (none, m26)) rfl (hQ_asks a0 323717 m25 _ e_) ?_
                    show xEv (117, 152, [some (13, a0), some (0, (fQ_is a0 63030 M)), some (0, (fQ_is a0 279109036 M)), some (0, (fQ_is a0 385495 M)), none, none], [], m26) _
                    refine xEvG_n xml xfetch 4 (y := (117, 156, [some (13, a0), some (0, (fQ_is a0 63030 M)), some (0, (fQ_is a0 279109036 M)), some (0, (fQ_is a0 385495 M)), none, none], [(0, 1), (13, a0), (0, 0), (13, a0)], m26)) rfl trivial ?_
                    obtain ⟨v27, e_, h⟩ := xB_t h
                    refine xEvG_call xml xfetch (q := (some (0, v27), m26)) rfl (hQ_hasRead a0 1 m26 _ e_) ?_
                    show xEv (117, 159, [some (13, a0), some (0, (fQ_is a0 63030 M)), some (0, (fQ_is a0 279109036 M)), some (0, (fQ_is a0 385495 M)), none, none], [(0, v27), (0, 0), (13, a0)], m26) _
                    refine xEvG_n xml xfetch 2 (y := (117, 161, [some (13, a0), some (0, (fQ_is a0 63030 M)), some (0, (fQ_is a0 279109036 M)), some (0, (fQ_is a0 385495 M)), none, none], [(0, (xw32 (v27 - 1))), (0, 0), (13, a0)], m26)) rfl trivial ?_
                    obtain ⟨⟨v28, m28⟩, e_, h⟩ := xB_t h
                    refine xEvG_call xml xfetch (q := (some (0, v28), m28)) rfl (hQ_number2 a0 0 (xw32 (v27 - 1)) m26 _ e_) ?_
                    show xEv (117, 164, [some (13, a0), some (0, (fQ_is a0 63030 M)), some (0, (fQ_is a0 279109036 M)), some (0, (fQ_is a0 385495 M)), none, none], [(0, v28)], m28) _
                    refine xEvG_n xml xfetch 2 (y := (117, 167, [some (13, a0), some (0, (fQ_is a0 63030 M)), some (0, (fQ_is a0 279109036 M)), some (0, (fQ_is a0 385495 M)), some (0, v28), none], [(13, a0)], m28)) rfl trivial ?_
                    obtain ⟨⟨v29, m29⟩, e_, h⟩ := xB_t h
                    refine xEvG_call xml xfetch (q := (some (0, v29), m29)) rfl (hQ_cellHere a0 m28 _ e_) ?_
                    show xEv (117, 170, [some (13, a0), some (0, (fQ_is a0 63030 M)), some (0, (fQ_is a0 279109036 M)), some (0, (fQ_is a0 385495 M)), some (0, v28), none], [(0, v29)], m29) _
                    refine xEvG_n xml xfetch 2 (y := (117, 173, [some (13, a0), some (0, (fQ_is a0 63030 M)), some (0, (fQ_is a0 279109036 M)), some (0, (fQ_is a0 385495 M)), some (0, v28), some (0, v29)], [(13, a0)], m29)) rfl trivial ?_
                    refine xEvG_call xml xfetch (q := (some (0, fQ_isGood a0 m29), m29)) rfl (hQ_isGood a0 m29 _ rfl) ?_
                    show xEv (117, 176, [some (13, a0), some (0, (fQ_is a0 63030 M)), some (0, (fQ_is a0 279109036 M)), some (0, (fQ_is a0 385495 M)), some (0, v28), some (0, v29)], [(0, (fQ_isGood a0 m29))], m29) _
                    refine xEvG_n xml xfetch 1 (y := (117, if (fQ_isGood a0 m29) = 0 then 191 else 179, [some (13, a0), some (0, (fQ_is a0 63030 M)), some (0, (fQ_is a0 279109036 M)), some (0, (fQ_is a0 385495 M)), some (0, v28), some (0, v29)], [], m29)) rfl trivial ?_
                    refine xEvG_br xml xfetch (fun c_ => ?_) (fun c_ => ?_)
                    · have h := xif_t c_ h
                      cases h
                      exact xEvG_ret xml xfetch rfl
                    · have h := xif_f c_ h
                      have a0_ := (xA_t h).1
                      have h := (xA_t h).2
                      refine xEvG_n xml xfetch 7 (y := (117, 191, [some (13, a0), some (0, (fQ_is a0 63030 M)), some (0, (fQ_is a0 279109036 M)), some (0, (fQ_is a0 385495 M)), some (0, v28), some (0, v29)], [], (xwr m29 (a0 + 11) (xw32 (96 + v28)) v29))) rfl ⟨a0_, trivial⟩ ?_
                      cases h
                      exact xEvG_ret xml xfetch rfl
                  · have h := xif_f c_ h
                    refine xEvG_n xml xfetch 1 (y := (117, 139, [some (13, a0), some (0, (fQ_is a0 63030 M)), some (0, (fQ_is a0 279109036 M)), some (0, (fQ_is a0 385495 M)), none, none], [(13, a0)], m25)) rfl trivial ?_
                    obtain ⟨m31, e_, h⟩ := xB_t h
                    refine xEvG_call xml xfetch (q := (none, m31)) rfl (hQ_quarrelLine a0 m25 _ e_) ?_
                    show xEv (117, 142, [some (13, a0), some (0, (fQ_is a0 63030 M)), some (0, (fQ_is a0 279109036 M)), some (0, (fQ_is a0 385495 M)), none, none], [], m31) _
                    refine xEvG_n xml xfetch 1 (y := (117, 191, [some (13, a0), some (0, (fQ_is a0 63030 M)), some (0, (fQ_is a0 279109036 M)), some (0, (fQ_is a0 385495 M)), none, none], [], m31)) rfl trivial ?_
                    cases h
                    exact xEvG_ret xml xfetch rfl
                · have h := xif_f c_ h
                  refine xEvG_n xml xfetch 1 (y := (117, 96, [some (13, a0), some (0, (fQ_is a0 63030 M)), some (0, (fQ_is a0 279109036 M)), some (0, (fQ_is a0 385495 M)), none, none], [(13, a0)], (fQ_fails a0 3 M))) rfl trivial ?_
                  obtain ⟨m32, e_, h⟩ := xB_t h
                  refine xEvG_call xml xfetch (q := (none, m32)) rfl (hQ_next a0 (fQ_fails a0 3 M) _ e_) ?_
                  show xEv (117, 99, [some (13, a0), some (0, (fQ_is a0 63030 M)), some (0, (fQ_is a0 279109036 M)), some (0, (fQ_is a0 385495 M)), none, none], [], m32) _
                  refine xEvG_n xml xfetch 2 (y := (117, if (fQ_is a0 63030 M) = 0 then 110 else 103, [some (13, a0), some (0, (fQ_is a0 63030 M)), some (0, (fQ_is a0 279109036 M)), some (0, (fQ_is a0 385495 M)), none, none], [], m32)) rfl trivial ?_
                  refine xEvG_br xml xfetch (fun c_ => ?_) (fun c_ => ?_)
                  · have h := xif_t c_ h
                    refine xEvG_n xml xfetch 2 (y := (117, if (fQ_is a0 279109036 M) = 0 then 121 else 114, [some (13, a0), some (0, (fQ_is a0 63030 M)), some (0, (fQ_is a0 279109036 M)), some (0, (fQ_is a0 385495 M)), none, none], [], m32)) rfl trivial ?_
                    refine xEvG_br xml xfetch (fun c_ => ?_) (fun c_ => ?_)
                    · have h := xif_t c_ h
                      refine xEvG_n xml xfetch 1 (y := (117, 122, [some (13, a0), some (0, (fQ_is a0 63030 M)), some (0, (fQ_is a0 279109036 M)), some (0, (fQ_is a0 385495 M)), none, none], [(13, a0)], m32)) rfl trivial ?_
                      obtain ⟨m33, e_, h⟩ := xB_t h
                      refine xEvG_call xml xfetch (q := (none, m33)) rfl (hQ_soupLine a0 m32 _ e_) ?_
                      show xEv (117, 125, [some (13, a0), some (0, (fQ_is a0 63030 M)), some (0, (fQ_is a0 279109036 M)), some (0, (fQ_is a0 385495 M)), none, none], [], m33) _
                      refine xEvG_n xml xfetch 1 (y := (117, 191, [some (13, a0), some (0, (fQ_is a0 63030 M)), some (0, (fQ_is a0 279109036 M)), some (0, (fQ_is a0 385495 M)), none, none], [], m33)) rfl trivial ?_
                      cases h
                      exact xEvG_ret xml xfetch rfl
                    · have h := xif_f c_ h
                      refine xEvG_n xml xfetch 1 (y := (117, 115, [some (13, a0), some (0, (fQ_is a0 63030 M)), some (0, (fQ_is a0 279109036 M)), some (0, (fQ_is a0 385495 M)), none, none], [(13, a0)], m32)) rfl trivial ?_
                      obtain ⟨m34, e_, h⟩ := xB_t h
                      refine xEvG_call xml xfetch (q := (none, m34)) rfl (hQ_sleepLine a0 m32 _ e_) ?_
                      show xEv (117, 118, [some (13, a0), some (0, (fQ_is a0 63030 M)), some (0, (fQ_is a0 279109036 M)), some (0, (fQ_is a0 385495 M)), none, none], [], m34) _
                      refine xEvG_n xml xfetch 1 (y := (117, 191, [some (13, a0), some (0, (fQ_is a0 63030 M)), some (0, (fQ_is a0 279109036 M)), some (0, (fQ_is a0 385495 M)), none, none], [], m34)) rfl trivial ?_
                      cases h
                      exact xEvG_ret xml xfetch rfl
                  · have h := xif_f c_ h
                    refine xEvG_n xml xfetch 1 (y := (117, 104, [some (13, a0), some (0, (fQ_is a0 63030 M)), some (0, (fQ_is a0 279109036 M)), some (0, (fQ_is a0 385495 M)), none, none], [(13, a0)], m32)) rfl trivial ?_
                    obtain ⟨m35, e_, h⟩ := xB_t h
                    refine xEvG_call xml xfetch (q := (none, m35)) rfl (hQ_manLine a0 m32 _ e_) ?_
                    show xEv (117, 107, [some (13, a0), some (0, (fQ_is a0 63030 M)), some (0, (fQ_is a0 279109036 M)), some (0, (fQ_is a0 385495 M)), none, none], [], m35) _
                    refine xEvG_n xml xfetch 1 (y := (117, 191, [some (13, a0), some (0, (fQ_is a0 63030 M)), some (0, (fQ_is a0 279109036 M)), some (0, (fQ_is a0 385495 M)), none, none], [], m35)) rfl trivial ?_
                    cases h
                    exact xEvG_ret xml xfetch rfl
              · have h := xif_f c_ h
                refine xEvG_n xml xfetch 1 (y := (117, 96, [some (13, a0), some (0, (fQ_is a0 63030 M)), some (0, (fQ_is a0 279109036 M)), some (0, (fQ_is a0 385495 M)), none, none], [(13, a0)], (fQ_fails a0 3 M))) rfl trivial ?_
                obtain ⟨m36, e_, h⟩ := xB_t h
                refine xEvG_call xml xfetch (q := (none, m36)) rfl (hQ_next a0 (fQ_fails a0 3 M) _ e_) ?_
                show xEv (117, 99, [some (13, a0), some (0, (fQ_is a0 63030 M)), some (0, (fQ_is a0 279109036 M)), some (0, (fQ_is a0 385495 M)), none, none], [], m36) _
                refine xEvG_n xml xfetch 2 (y := (117, if (fQ_is a0 63030 M) = 0 then 110 else 103, [some (13, a0), some (0, (fQ_is a0 63030 M)), some (0, (fQ_is a0 279109036 M)), some (0, (fQ_is a0 385495 M)), none, none], [], m36)) rfl trivial ?_
                refine xEvG_br xml xfetch (fun c_ => ?_) (fun c_ => ?_)
                · have h := xif_t c_ h
                  refine xEvG_n xml xfetch 2 (y := (117, if (fQ_is a0 279109036 M) = 0 then 121 else 114, [some (13, a0), some (0, (fQ_is a0 63030 M)), some (0, (fQ_is a0 279109036 M)), some (0, (fQ_is a0 385495 M)), none, none], [], m36)) rfl trivial ?_
                  refine xEvG_br xml xfetch (fun c_ => ?_) (fun c_ => ?_)
                  · have h := xif_t c_ h
                    refine xEvG_n xml xfetch 1 (y := (117, 122, [some (13, a0), some (0, (fQ_is a0 63030 M)), some (0, (fQ_is a0 279109036 M)), some (0, (fQ_is a0 385495 M)), none, none], [(13, a0)], m36)) rfl trivial ?_
                    obtain ⟨m37, e_, h⟩ := xB_t h
                    refine xEvG_call xml xfetch (q := (none, m37)) rfl (hQ_soupLine a0 m36 _ e_) ?_
                    show xEv (117, 125, [some (13, a0), some (0, (fQ_is a0 63030 M)), some (0, (fQ_is a0 279109036 M)), some (0, (fQ_is a0 385495 M)), none, none], [], m37) _
                    refine xEvG_n xml xfetch 1 (y := (117, 191, [some (13, a0), some (0, (fQ_is a0 63030 M)), some (0, (fQ_is a0 279109036 M)), some (0, (fQ_is a0 385495 M)), none, none], [], m37)) rfl trivial ?_
                    cases h
                    exact xEvG_ret xml xfetch rfl
                  · have h := xif_f c_ h
                    refine xEvG_n xml xfetch 1 (y := (117, 115, [some (13, a0), some (0, (fQ_is a0 63030 M)), some (0, (fQ_is a0 279109036 M)), some (0, (fQ_is a0 385495 M)), none, none], [(13, a0)], m36)) rfl trivial ?_
                    obtain ⟨m38, e_, h⟩ := xB_t h
                    refine xEvG_call xml xfetch (q := (none, m38)) rfl (hQ_sleepLine a0 m36 _ e_) ?_
                    show xEv (117, 118, [some (13, a0), some (0, (fQ_is a0 63030 M)), some (0, (fQ_is a0 279109036 M)), some (0, (fQ_is a0 385495 M)), none, none], [], m38) _
                    refine xEvG_n xml xfetch 1 (y := (117, 191, [some (13, a0), some (0, (fQ_is a0 63030 M)), some (0, (fQ_is a0 279109036 M)), some (0, (fQ_is a0 385495 M)), none, none], [], m38)) rfl trivial ?_
                    cases h
                    exact xEvG_ret xml xfetch rfl
                · have h := xif_f c_ h
                  refine xEvG_n xml xfetch 1 (y := (117, 104, [some (13, a0), some (0, (fQ_is a0 63030 M)), some (0, (fQ_is a0 279109036 M)), some (0, (fQ_is a0 385495 M)), none, none], [(13, a0)], m36)) rfl trivial ?_
                  obtain ⟨m39, e_, h⟩ := xB_t h
                  refine xEvG_call xml xfetch (q := (none, m39)) rfl (hQ_manLine a0 m36 _ e_) ?_
                  show xEv (117, 107, [some (13, a0), some (0, (fQ_is a0 63030 M)), some (0, (fQ_is a0 279109036 M)), some (0, (fQ_is a0 385495 M)), none, none], [], m39) _
                  refine xEvG_n xml xfetch 1 (y := (117, 191, [some (13, a0), some (0, (fQ_is a0 63030 M)), some (0, (fQ_is a0 279109036 M)), some (0, (fQ_is a0 385495 M)), none, none], [], m39)) rfl trivial ?_
                  cases h
                  exact xEvG_ret xml xfetch rfl
            · have h := xif_f c_ h
              refine xEvG_n xml xfetch 1 (y := (117, 96, [some (13, a0), some (0, (fQ_is a0 63030 M)), some (0, (fQ_is a0 279109036 M)), some (0, (fQ_is a0 385495 M)), none, none], [(13, a0)], (fQ_fails a0 3 M))) rfl trivial ?_
              obtain ⟨m40, e_, h⟩ := xB_t h
              refine xEvG_call xml xfetch (q := (none, m40)) rfl (hQ_next a0 (fQ_fails a0 3 M) _ e_) ?_
              show xEv (117, 99, [some (13, a0), some (0, (fQ_is a0 63030 M)), some (0, (fQ_is a0 279109036 M)), some (0, (fQ_is a0 385495 M)), none, none], [], m40) _
              refine xEvG_n xml xfetch 2 (y := (117, if (fQ_is a0 63030 M) = 0 then 110 else 103, [some (13, a0), some (0, (fQ_is a0 63030 M)), some (0, (fQ_is a0 279109036 M)), some (0, (fQ_is a0 385495 M)), none, none], [], m40)) rfl trivial ?_
              refine xEvG_br xml xfetch (fun c_ => ?_) (fun c_ => ?_)
              · have h := xif_t c_ h
                refine xEvG_n xml xfetch 2 (y := (117, if (fQ_is a0 279109036 M) = 0 then 121 else 114, [some (13, a0), some (0, (fQ_is a0 63030 M)), some (0, (fQ_is a0 279109036 M)), some (0, (fQ_is a0 385495 M)), none, none], [], m40)) rfl trivial ?_
                refine xEvG_br xml xfetch (fun c_ => ?_) (fun c_ => ?_)
                · have h := xif_t c_ h
                  refine xEvG_n xml xfetch 1 (y := (117, 122, [some (13, a0), some (0, (fQ_is a0 63030 M)), some (0, (fQ_is a0 279109036 M)), some (0, (fQ_is a0 385495 M)), none, none], [(13, a0)], m40)) rfl trivial ?_
                  obtain ⟨m41, e_, h⟩ := xB_t h
                  refine xEvG_call xml xfetch (q := (none, m41)) rfl (hQ_soupLine a0 m40 _ e_) ?_
                  show xEv (117, 125, [some (13, a0), some (0, (fQ_is a0 63030 M)), some (0, (fQ_is a0 279109036 M)), some (0, (fQ_is a0 385495 M)), none, none], [], m41) _
                  refine xEvG_n xml xfetch 1 (y := (117, 191, [some (13, a0), some (0, (fQ_is a0 63030 M)), some (0, (fQ_is a0 279109036 M)), some (0, (fQ_is a0 385495 M)), none, none], [], m41)) rfl trivial ?_
                  cases h
                  exact xEvG_ret xml xfetch rfl
                · have h := xif_f c_ h
                  refine xEvG_n xml xfetch 1 (y := (117, 115, [some (13, a0), some (0, (fQ_is a0 63030 M)), some (0, (fQ_is a0 279109036 M)), some (0, (fQ_is a0 385495 M)), none, none], [(13, a0)], m40)) rfl trivial ?_
                  obtain ⟨m42, e_, h⟩ := xB_t h
                  refine xEvG_call xml xfetch (q := (none, m42)) rfl (hQ_sleepLine a0 m40 _ e_) ?_
                  show xEv (117, 118, [some (13, a0), some (0, (fQ_is a0 63030 M)), some (0, (fQ_is a0 279109036 M)), some (0, (fQ_is a0 385495 M)), none, none], [], m42) _
                  refine xEvG_n xml xfetch 1 (y := (117, 191, [some (13, a0), some (0, (fQ_is a0 63030 M)), some (0, (fQ_is a0 279109036 M)), some (0, (fQ_is a0 385495 M)), none, none], [], m42)) rfl trivial ?_
                  cases h
                  exact xEvG_ret xml xfetch rfl
              · have h := xif_f c_ h
                refine xEvG_n xml xfetch 1 (y := (117, 104, [some (13, a0), some (0, (fQ_is a0 63030 M)), some (0, (fQ_is a0 279109036 M)), some (0, (fQ_is a0 385495 M)), none, none], [(13, a0)], m40)) rfl trivial ?_
                obtain ⟨m43, e_, h⟩ := xB_t h
                refine xEvG_call xml xfetch (q := (none, m43)) rfl (hQ_manLine a0 m40 _ e_) ?_
                show xEv (117, 107, [some (13, a0), some (0, (fQ_is a0 63030 M)), some (0, (fQ_is a0 279109036 M)), some (0, (fQ_is a0 385495 M)), none, none], [], m43) _
                refine xEvG_n xml xfetch 1 (y := (117, 191, [some (13, a0), some (0, (fQ_is a0 63030 M)), some (0, (fQ_is a0 279109036 M)), some (0, (fQ_is a0 385495 M)), none, none], [], m43)) rfl trivial ?_
                cases h
                exact xEvG_ret xml xfetch rfl
          · have h := xif_f c_ h
            cases h
            exact xEvG_ret xml xfetch rfl
        · have h := xif_f c_ h
          refine xEvG_n xml xfetch 3 (y := (117, if (M a0 12) = 0 then 83 else 82, [some (13, a0), some (0, (fQ_is a0 63030 M)), some (0, (fQ_is a0 279109036 M)), some (0, (fQ_is a0 385495 M)), none, none], [], M)) rfl trivial ?_
          refine xEvG_br xml xfetch (fun c_ => ?_) (fun c_ => ?_)
          · have h := xif_t c_ h
            refine xEvG_n xml xfetch 2 (y := (117, if (fQ_is a0 63030 M) = 0 then 87 else 95, [some (13, a0), some (0, (fQ_is a0 63030 M)), some (0, (fQ_is a0 279109036 M)), some (0, (fQ_is a0 385495 M)), none, none], [], M)) rfl trivial ?_
            refine xEvG_br xml xfetch (fun c_ => ?_) (fun c_ => ?_)
            · have h := xif_t c_ h
              refine xEvG_n xml xfetch 2 (y := (117, if (fQ_is a0 279109036 M) = 0 then 91 else 95, [some (13, a0), some (0, (fQ_is a0 63030 M)), some (0, (fQ_is a0 279109036 M)), some (0, (fQ_is a0 385495 M)), none, none], [], M)) rfl trivial ?_
              refine xEvG_br xml xfetch (fun c_ => ?_) (fun c_ => ?_)
              · have h := xif_t c_ h
                refine xEvG_n xml xfetch 2 (y := (117, if (fQ_is a0 385495 M) = 0 then 128 else 95, [some (13, a0), some (0, (fQ_is a0 63030 M)), some (0, (fQ_is a0 279109036 M)), some (0, (fQ_is a0 385495 M)), none, none], [], M)) rfl trivial ?_
                refine xEvG_br xml xfetch (fun c_ => ?_) (fun c_ => ?_)
                · have h := xif_t c_ h
                  refine xEvG_n xml xfetch 2 (y := (117, 132, [some (13, a0), some (0, (fQ_is a0 63030 M)), some (0, (fQ_is a0 279109036 M)), some (0, (fQ_is a0 385495 M)), none, none], [(1, 6888374364), (13, a0)], M)) rfl trivial ?_
                  obtain ⟨⟨v44, m44⟩, e_, h⟩ := xB_t h
                  refine xEvG_call xml xfetch (q := (some (0, v44), m44)) rfl (hQ_takes a0 6888374364 M _ e_) ?_
                  show xEv (117, 135, [some (13, a0), some (0, (fQ_is a0 63030 M)), some (0, (fQ_is a0 279109036 M)), some (0, (fQ_is a0 385495 M)), none, none], [(0, v44)], m44) _
                  refine xEvG_n xml xfetch 1 (y := (117, if v44 = 0 then 145 else 138, [some (13, a0), some (0, (fQ_is a0 63030 M)), some (0, (fQ_is a0 279109036 M)), some (0, (fQ_is a0 385495 M)), none, none], [], m44)) rfl trivial ?_
                  refine xEvG_br xml xfetch (fun c_ => ?_) (fun c_ => ?_)
                  · have h := xif_t c_ h
                    refine xEvG_n xml xfetch 2 (y := (117, 149, [some (13, a0), some (0, (fQ_is a0 63030 M)), some (0, (fQ_is a0 279109036 M)), some (0, (fQ_is a0 385495 M)), none, none], [(1, 323717), (13, a0)], m44)) rfl trivial ?_
                    obtain ⟨m45, e_, h⟩ := xB_t h
                    refine xEvG_call xml xfetch (q := (none, m45)) rfl (hQ_asks a0 323717 m44 _ e_) ?_
                    show xEv (117, 152, [some (13, a0), some (0, (fQ_is a0 63030 M)), some (0, (fQ_is a0 279109036 M)), some (0, (fQ_is a0 385495 M)), none, none], [], m45) _
                    refine xEvG_n xml xfetch 4 (y := (117, 156, [some (13, a0), some (0, (fQ_is a0 63030 M)), some (0, (fQ_is a0 279109036 M)), some (0, (fQ_is a0 385495 M)), none, none], [(0, 1), (13, a0), (0, 0), (13, a0)], m45)) rfl trivial ?_
                    obtain ⟨v46, e_, h⟩ := xB_t h
                    refine xEvG_call xml xfetch (q := (some (0, v46), m45)) rfl (hQ_hasRead a0 1 m45 _ e_) ?_
                    show xEv (117, 159, [some (13, a0), some (0, (fQ_is a0 63030 M)), some (0, (fQ_is a0 279109036 M)), some (0, (fQ_is a0 385495 M)), none, none], [(0, v46), (0, 0), (13, a0)], m45) _
                    refine xEvG_n xml xfetch 2 (y := (117, 161, [some (13, a0), some (0, (fQ_is a0 63030 M)), some (0, (fQ_is a0 279109036 M)), some (0, (fQ_is a0 385495 M)), none, none], [(0, (xw32 (v46 - 1))), (0, 0), (13, a0)], m45)) rfl trivial ?_
                    obtain ⟨⟨v47, m47⟩, e_, h⟩ := xB_t h
                    refine xEvG_call xml xfetch (q := (some (0, v47), m47)) rfl (hQ_number2 a0 0 (xw32 (v46 - 1)) m45 _ e_) ?_
                    show xEv (117, 164, [some (13, a0), some (0, (fQ_is a0 63030 M)), some (0, (fQ_is a0 279109036 M)), some (0, (fQ_is a0 385495 M)), none, none], [(0, v47)], m47) _
                    refine xEvG_n xml xfetch 2 (y := (117, 167, [some (13, a0), some (0, (fQ_is a0 63030 M)), some (0, (fQ_is a0 279109036 M)), some (0, (fQ_is a0 385495 M)), some (0, v47), none], [(13, a0)], m47)) rfl trivial ?_
                    obtain ⟨⟨v48, m48⟩, e_, h⟩ := xB_t h
                    refine xEvG_call xml xfetch (q := (some (0, v48), m48)) rfl (hQ_cellHere a0 m47 _ e_) ?_
                    show xEv (117, 170, [some (13, a0), some (0, (fQ_is a0 63030 M)), some (0, (fQ_is a0 279109036 M)), some (0, (fQ_is a0 385495 M)), some (0, v47), none], [(0, v48)], m48) _
                    refine xEvG_n xml xfetch 2 (y := (117, 173, [some (13, a0), some (0, (fQ_is a0 63030 M)), some (0, (fQ_is a0 279109036 M)), some (0, (fQ_is a0 385495 M)), some (0, v47), some (0, v48)], [(13, a0)], m48)) rfl trivial ?_
                    refine xEvG_call xml xfetch (q := (some (0, fQ_isGood a0 m48), m48)) rfl (hQ_isGood a0 m48 _ rfl) ?_
                    show xEv (117, 176, [some (13, a0), some (0, (fQ_is a0 63030 M)), some (0, (fQ_is a0 279109036 M)), some (0, (fQ_is a0 385495 M)), some (0, v47), some (0, v48)], [(0, (fQ_isGood a0 m48))], m48) _
                    refine xEvG_n xml xfetch 1 (y := (117, if (fQ_isGood a0 m48) = 0 then 191 else 179, [some (13, a0), some (0, (fQ_is a0 63030 M)), some (0, (fQ_is a0 279109036 M)), some (0, (fQ_is a0 385495 M)), some (0, v47), some (0, v48)], [], m48)) rfl trivial ?_
                    refine xEvG_br xml xfetch (fun c_ => ?_) (fun c_ => ?_)
                    · have h := xif_t c_ h
                      cases h
                      exact xEvG_ret xml xfetch rfl
                    · have h := xif_f c_ h
                      have a0_ := (xA_t h).1
                      have h := (xA_t h).2
                      refine xEvG_n xml xfetch 7 (y := (117, 191, [some (13, a0), some (0, (fQ_is a0 63030 M)), some (0, (fQ_is a0 279109036 M)), some (0, (fQ_is a0 385495 M)), some (0, v47), some (0, v48)], [], (xwr m48 (a0 + 11) (xw32 (96 + v47)) v48))) rfl ⟨a0_, trivial⟩ ?_
                      cases h
                      exact xEvG_ret xml xfetch rfl
                  · have h := xif_f c_ h
                    refine xEvG_n xml xfetch 1 (y := (117, 139, [some (13, a0), some (0, (fQ_is a0 63030 M)), some (0, (fQ_is a0 279109036 M)), some (0, (fQ_is a0 385495 M)), none, none], [(13, a0)], m44)) rfl trivial ?_
                    obtain ⟨m50, e_, h⟩ := xB_t h
                    refine xEvG_call xml xfetch (q := (none, m50)) rfl (hQ_quarrelLine a0 m44 _ e_) ?_
                    show xEv (117, 142, [some (13, a0), some (0, (fQ_is a0 63030 M)), some (0, (fQ_is a0 279109036 M)), some (0, (fQ_is a0 385495 M)), none, none], [], m50) _
                    refine xEvG_n xml xfetch 1 (y := (117, 191, [some (13, a0), some (0, (fQ_is a0 63030 M)), some (0, (fQ_is a0 279109036 M)), some (0, (fQ_is a0 385495 M)), none, none], [], m50)) rfl trivial ?_
                    cases h
                    exact xEvG_ret xml xfetch rfl
                · have h := xif_f c_ h
                  refine xEvG_n xml xfetch 1 (y := (117, 96, [some (13, a0), some (0, (fQ_is a0 63030 M)), some (0, (fQ_is a0 279109036 M)), some (0, (fQ_is a0 385495 M)), none, none], [(13, a0)], M)) rfl trivial ?_
                  obtain ⟨m51, e_, h⟩ := xB_t h
                  refine xEvG_call xml xfetch (q := (none, m51)) rfl (hQ_next a0 M _ e_) ?_
                  show xEv (117, 99, [some (13, a0), some (0, (fQ_is a0 63030 M)), some (0, (fQ_is a0 279109036 M)), some (0, (fQ_is a0 385495 M)), none, none], [], m51) _
                  refine xEvG_n xml xfetch 2 (y := (117, if (fQ_is a0 63030 M) = 0 then 110 else 103, [some (13, a0), some (0, (fQ_is a0 63030 M)), some (0, (fQ_is a0 279109036 M)), some (0, (fQ_is a0 385495 M)), none, none], [], m51)) rfl trivial ?_
                  refine xEvG_br xml xfetch (fun c_ => ?_) (fun c_ => ?_)
                  · have h := xif_t c_ h
                    refine xEvG_n xml xfetch 2 (y := (117, if (fQ_is a0 279109036 M) = 0 then 121 else 114, [some (13, a0), some (0, (fQ_is a0 63030 M)), some (0, (fQ_is a0 279109036 M)), some (0, (fQ_is a0 385495 M)), none, none], [], m51)) rfl trivial ?_
                    refine xEvG_br xml xfetch (fun c_ => ?_) (fun c_ => ?_)
                    · have h := xif_t c_ h
                      refine xEvG_n xml xfetch 1 (y := (117, 122, [some (13, a0), some (0, (fQ_is a0 63030 M)), some (0, (fQ_is a0 279109036 M)), some (0, (fQ_is a0 385495 M)), none, none], [(13, a0)], m51)) rfl trivial ?_
                      obtain ⟨m52, e_, h⟩ := xB_t h
                      refine xEvG_call xml xfetch (q := (none, m52)) rfl (hQ_soupLine a0 m51 _ e_) ?_
                      show xEv (117, 125, [some (13, a0), some (0, (fQ_is a0 63030 M)), some (0, (fQ_is a0 279109036 M)), some (0, (fQ_is a0 385495 M)), none, none], [], m52) _
                      refine xEvG_n xml xfetch 1 (y := (117, 191, [some (13, a0), some (0, (fQ_is a0 63030 M)), some (0, (fQ_is a0 279109036 M)), some (0, (fQ_is a0 385495 M)), none, none], [], m52)) rfl trivial ?_
                      cases h
                      exact xEvG_ret xml xfetch rfl
                    · have h := xif_f c_ h
                      refine xEvG_n xml xfetch 1 (y := (117, 115, [some (13, a0), some (0, (fQ_is a0 63030 M)), some (0, (fQ_is a0 279109036 M)), some (0, (fQ_is a0 385495 M)), none, none], [(13, a0)], m51)) rfl trivial ?_
                      obtain ⟨m53, e_, h⟩ := xB_t h
                      refine xEvG_call xml xfetch (q := (none, m53)) rfl (hQ_sleepLine a0 m51 _ e_) ?_
                      show xEv (117, 118, [some (13, a0), some (0, (fQ_is a0 63030 M)), some (0, (fQ_is a0 279109036 M)), some (0, (fQ_is a0 385495 M)), none, none], [], m53) _
                      refine xEvG_n xml xfetch 1 (y := (117, 191, [some (13, a0), some (0, (fQ_is a0 63030 M)), some (0, (fQ_is a0 279109036 M)), some (0, (fQ_is a0 385495 M)), none, none], [], m53)) rfl trivial ?_
                      cases h
                      exact xEvG_ret xml xfetch rfl
                  · have h := xif_f c_ h
                    refine xEvG_n xml xfetch 1 (y := (117, 104, [some (13, a0), some (0, (fQ_is a0 63030 M)), some (0, (fQ_is a0 279109036 M)), some (0, (fQ_is a0 385495 M)), none, none], [(13, a0)], m51)) rfl trivial ?_
                    obtain ⟨m54, e_, h⟩ := xB_t h
                    refine xEvG_call xml xfetch (q := (none, m54)) rfl (hQ_manLine a0 m51 _ e_) ?_
                    show xEv (117, 107, [some (13, a0), some (0, (fQ_is a0 63030 M)), some (0, (fQ_is a0 279109036 M)), some (0, (fQ_is a0 385495 M)), none, none], [], m54) _
                    refine xEvG_n xml xfetch 1 (y := (117, 191, [some (13, a0), some (0, (fQ_is a0 63030 M)), some (0, (fQ_is a0 279109036 M)), some (0, (fQ_is a0 385495 M)), none, none], [], m54)) rfl trivial ?_
                    cases h
                    exact xEvG_ret xml xfetch rfl
              · have h := xif_f c_ h
                refine xEvG_n xml xfetch 1 (y := (117, 96, [some (13, a0), some (0, (fQ_is a0 63030 M)), some (0, (fQ_is a0 279109036 M)), some (0, (fQ_is a0 385495 M)), none, none], [(13, a0)], M)) rfl trivial ?_
                obtain ⟨m55, e_, h⟩ := xB_t h
                refine xEvG_call xml xfetch (q := (none, m55)) rfl (hQ_next a0 M _ e_) ?_
                show xEv (117, 99, [some (13, a0), some (0, (fQ_is a0 63030 M)), some (0, (fQ_is a0 279109036 M)), some (0, (fQ_is a0 385495 M)), none, none], [], m55) _
                refine xEvG_n xml xfetch 2 (y := (117, if (fQ_is a0 63030 M) = 0 then 110 else 103, [some (13, a0), some (0, (fQ_is a0 63030 M)), some (0, (fQ_is a0 279109036 M)), some (0, (fQ_is a0 385495 M)), none, none], [], m55)) rfl trivial ?_
                refine xEvG_br xml xfetch (fun c_ => ?_) (fun c_ => ?_)
                · have h := xif_t c_ h
                  refine xEvG_n xml xfetch 2 (y := (117, if (fQ_is a0 279109036 M) = 0 then 121 else 114, [some (13, a0), some (0, (fQ_is a0 63030 M)), some (0, (fQ_is a0 279109036 M)), some (0, (fQ_is a0 385495 M)), none, none], [], m55)) rfl trivial ?_
                  refine xEvG_br xml xfetch (fun c_ => ?_) (fun c_ => ?_)
                  · have h := xif_t c_ h
                    refine xEvG_n xml xfetch 1 (y := (117, 122, [some (13, a0), some (0, (fQ_is a0 63030 M)), some (0, (fQ_is a0 279109036 M)), some (0, (fQ_is a0 385495 M)), none, none], [(13, a0)], m55)) rfl trivial ?_
                    obtain ⟨m56, e_, h⟩ := xB_t h
                    refine xEvG_call xml xfetch (q := (none, m56)) rfl (hQ_soupLine a0 m55 _ e_) ?_
                    show xEv (117, 125, [some (13, a0), some (0, (fQ_is a0 63030 M)), some (0, (fQ_is a0 279109036 M)), some (0, (fQ_is a0 385495 M)), none, none], [], m56) _
                    refine xEvG_n xml xfetch 1 (y := (117, 191, [some (13, a0), some (0, (fQ_is a0 63030 M)), some (0, (fQ_is a0 279109036 M)), some (0, (fQ_is a0 385495 M)), none, none], [], m56)) rfl trivial ?_
                    cases h
                    exact xEvG_ret xml xfetch rfl
                  · have h := xif_f c_ h
                    refine xEvG_n xml xfetch 1 (y := (117, 115, [some (13, a0), some (0, (fQ_is a0 63030 M)), some (0, (fQ_is a0 279109036 M)), some (0, (fQ_is a0 385495 M)), none, none], [(13, a0)], m55)) rfl trivial ?_
                    obtain ⟨m57, e_, h⟩ := xB_t h
                    refine xEvG_call xml xfetch (q := (none, m57)) rfl (hQ_sleepLine a0 m55 _ e_) ?_
                    show xEv (117, 118, [some (13, a0), some (0, (fQ_is a0 63030 M)), some (0, (fQ_is a0 279109036 M)), some (0, (fQ_is a0 385495 M)), none, none], [], m57) _
                    refine xEvG_n xml xfetch 1 (y := (117, 191, [some (13, a0), some (0, (fQ_is a0 63030 M)), some (0, (fQ_is a0 279109036 M)), some (0, (fQ_is a0 385495 M)), none, none], [], m57)) rfl trivial ?_
                    cases h
                    exact xEvG_ret xml xfetch rfl
                · have h := xif_f c_ h
                  refine xEvG_n xml xfetch 1 (y := (117, 104, [some (13, a0), some (0, (fQ_is a0 63030 M)), some (0, (fQ_is a0 279109036 M)), some (0, (fQ_is a0 385495 M)), none, none], [(13, a0)], m55)) rfl trivial ?_
                  obtain ⟨m58, e_, h⟩ := xB_t h
                  refine xEvG_call xml xfetch (q := (none, m58)) rfl (hQ_manLine a0 m55 _ e_) ?_
                  show xEv (117, 107, [some (13, a0), some (0, (fQ_is a0 63030 M)), some (0, (fQ_is a0 279109036 M)), some (0, (fQ_is a0 385495 M)), none, none], [], m58) _
                  refine xEvG_n xml xfetch 1 (y := (117, 191, [some (13, a0), some (0, (fQ_is a0 63030 M)), some (0, (fQ_is a0 279109036 M)), some (0, (fQ_is a0 385495 M)), none, none], [], m58)) rfl trivial ?_
                  cases h
                  exact xEvG_ret xml xfetch rfl
            · have h := xif_f c_ h
              refine xEvG_n xml xfetch 1 (y := (117, 96, [some (13, a0), some (0, (fQ_is a0 63030 M)), some (0, (fQ_is a0 279109036 M)), some (0, (fQ_is a0 385495 M)), none, none], [(13, a0)], M)) rfl trivial ?_
              obtain ⟨m59, e_, h⟩ := xB_t h
              refine xEvG_call xml xfetch (q := (none, m59)) rfl (hQ_next a0 M _ e_) ?_
              show xEv (117, 99, [some (13, a0), some (0, (fQ_is a0 63030 M)), some (0, (fQ_is a0 279109036 M)), some (0, (fQ_is a0 385495 M)), none, none], [], m59) _
              refine xEvG_n xml xfetch 2 (y := (117, if (fQ_is a0 63030 M) = 0 then 110 else 103, [some (13, a0), some (0, (fQ_is a0 63030 M)), some (0, (fQ_is a0 279109036 M)), some (0, (fQ_is a0 385495 M)), none, none], [], m59)) rfl trivial ?_
              refine xEvG_br xml xfetch (fun c_ => ?_) (fun c_ => ?_)
              · have h := xif_t c_ h
                refine xEvG_n xml xfetch 2 (y := (117, if (fQ_is a0 279109036 M) = 0 then 121 else 114, [some (13, a0), some (0, (fQ_is a0 63030 M)), some (0, (fQ_is a0 279109036 M)), some (0, (fQ_is a0 385495 M)), none, none], [], m59)) rfl trivial ?_
                refine xEvG_br xml xfetch (fun c_ => ?_) (fun c_ => ?_)
                · have h := xif_t c_ h
                  refine xEvG_n xml xfetch 1 (y := (117, 122, [some (13, a0), some (0, (fQ_is a0 63030 M)), some (0, (fQ_is a0 279109036 M)), some (0, (fQ_is a0 385495 M)), none, none], [(13, a0)], m59)) rfl trivial ?_
                  obtain ⟨m60, e_, h⟩ := xB_t h
                  refine xEvG_call xml xfetch (q := (none, m60)) rfl (hQ_soupLine a0 m59 _ e_) ?_
                  show xEv (117, 125, [some (13, a0), some (0, (fQ_is a0 63030 M)), some (0, (fQ_is a0 279109036 M)), some (0, (fQ_is a0 385495 M)), none, none], [], m60) _
                  refine xEvG_n xml xfetch 1 (y := (117, 191, [some (13, a0), some (0, (fQ_is a0 63030 M)), some (0, (fQ_is a0 279109036 M)), some (0, (fQ_is a0 385495 M)), none, none], [], m60)) rfl trivial ?_
                  cases h
                  exact xEvG_ret xml xfetch rfl
                · have h := xif_f c_ h
                  refine xEvG_n xml xfetch 1 (y := (117, 115, [some (13, a0), some (0, (fQ_is a0 63030 M)), some (0, (fQ_is a0 279109036 M)), some (0, (fQ_is a0 385495 M)), none, none], [(13, a0)], m59)) rfl trivial ?_
                  obtain ⟨m61, e_, h⟩ := xB_t h
                  refine xEvG_call xml xfetch (q := (none, m61)) rfl (hQ_sleepLine a0 m59 _ e_) ?_
                  show xEv (117, 118, [some (13, a0), some (0, (fQ_is a0 63030 M)), some (0, (fQ_is a0 279109036 M)), some (0, (fQ_is a0 385495 M)), none, none], [], m61) _
                  refine xEvG_n xml xfetch 1 (y := (117, 191, [some (13, a0), some (0, (fQ_is a0 63030 M)), some (0, (fQ_is a0 279109036 M)), some (0, (fQ_is a0 385495 M)), none, none], [], m61)) rfl trivial ?_
                  cases h
                  exact xEvG_ret xml xfetch rfl
              · have h := xif_f c_ h
                refine xEvG_n xml xfetch 1 (y := (117, 104, [some (13, a0), some (0, (fQ_is a0 63030 M)), some (0, (fQ_is a0 279109036 M)), some (0, (fQ_is a0 385495 M)), none, none], [(13, a0)], m59)) rfl trivial ?_
                obtain ⟨m62, e_, h⟩ := xB_t h
                refine xEvG_call xml xfetch (q := (none, m62)) rfl (hQ_manLine a0 m59 _ e_) ?_
                show xEv (117, 107, [some (13, a0), some (0, (fQ_is a0 63030 M)), some (0, (fQ_is a0 279109036 M)), some (0, (fQ_is a0 385495 M)), none, none], [], m62) _
                refine xEvG_n xml xfetch 1 (y := (117, 191, [some (13, a0), some (0, (fQ_is a0 63030 M)), some (0, (fQ_is a0 279109036 M)), some (0, (fQ_is a0 385495 M)), none, none], [], m62)) rfl trivial ?_
                cases h
                exact xEvG_ret xml xfetch rfl
          · have h := xif_f c_ h
            cases h
            exact xEvG_ret xml xfetch rfl
    · have h := xif_f c_ h
      refine xEvG_n xml xfetch 2 (y := (117, 47, [some (13, a0), some (0, (fQ_is a0 63030 M)), some (0, (fQ_is a0 279109036 M)), some (0, (fQ_is a0 385495 M)), none, none], [(0, 5), (13, a0)], M)) rfl trivial ?_
      obtain ⟨v63, e_, h⟩ := xB_t h
      refine xEvG_call xml xfetch (q := (some (0, v63), M)) rfl (hQ_hasRead a0 5 M _ e_) ?_
      show xEv (117, 50, [some (13, a0), some (0, (fQ_is a0 63030 M)), some (0, (fQ_is a0 279109036 M)), some (0, (fQ_is a0 385495 M)), none, none], [(0, v63)], M) _
      refine xEvG_n xml xfetch 2 (y := (117, if v63 = 8 then 70 else 55, [some (13, a0), some (0, (fQ_is a0 63030 M)), some (0, (fQ_is a0 279109036 M)), some (0, (fQ_is a0 385495 M)), none, none], [], M)) rfl trivial ?_
      refine xEvG_br xml xfetch (fun c_ => ?_) (fun c_ => ?_)
      · have h := xif_t c_ h
        refine xEvG_n xml xfetch 2 (y := (117, 72, [some (13, a0), some (0, (fQ_is a0 63030 M)), some (0, (fQ_is a0 279109036 M)), some (0, (fQ_is a0 385495 M)), none, none], [(0, 3), (13, a0)], M)) rfl trivial ?_
        refine xEvG_call xml xfetch (q := (none, fQ_fails a0 3 M)) rfl (hQ_fails a0 3 M _ rfl) ?_
        show xEv (117, 75, [some (13, a0), some (0, (fQ_is a0 63030 M)), some (0, (fQ_is a0 279109036 M)), some (0, (fQ_is a0 385495 M)), none, none], [], (fQ_fails a0 3 M)) _
        refine xEvG_n xml xfetch 3 (y := (117, if ((fQ_fails a0 3 M) a0 12) = 0 then 83 else 82, [some (13, a0), some (0, (fQ_is a0 63030 M)), some (0, (fQ_is a0 279109036 M)), some (0, (fQ_is a0 385495 M)), none, none], [], (fQ_fails a0 3 M))) rfl trivial ?_
        refine xEvG_br xml xfetch (fun c_ => ?_) (fun c_ => ?_)
        · have h := xif_t c_ h
          refine xEvG_n xml xfetch 2 (y := (117, if (fQ_is a0 63030 M) = 0 then 87 else 95, [some (13, a0), some (0, (fQ_is a0 63030 M)), some (0, (fQ_is a0 279109036 M)), some (0, (fQ_is a0 385495 M)), none, none], [], (fQ_fails a0 3 M))) rfl trivial ?_
          refine xEvG_br xml xfetch (fun c_ => ?_) (fun c_ => ?_)
          · have h := xif_t c_ h
            refine xEvG_n xml xfetch 2 (y := (117, if (fQ_is a0 279109036 M) = 0 then 91 else 95, [some (13, a0), some (0, (fQ_is a0 63030 M)), some (0, (fQ_is a0 279109036 M)), some (0, (fQ_is a0 385495 M)), none, none], [], (fQ_fails a0 3 M))) rfl trivial ?_
            refine xEvG_br xml xfetch (fun c_ => ?_) (fun c_ => ?_)
            · have h := xif_t c_ h
              refine xEvG_n xml xfetch 2 (y := (117, if (fQ_is a0 385495 M) = 0 then 128 else 95, [some (13, a0), some (0, (fQ_is a0 63030 M)), some (0, (fQ_is a0 279109036 M)), some (0, (fQ_is a0 385495 M)), none, none], [], (fQ_fails a0 3 M))) rfl trivial ?_
              refine xEvG_br xml xfetch (fun c_ => ?_) (fun c_ => ?_)
              · have h := xif_t c_ h
                refine xEvG_n xml xfetch 2 (y := (117, 132, [some (13, a0), some (0, (fQ_is a0 63030 M)), some (0, (fQ_is a0 279109036 M)), some (0, (fQ_is a0 385495 M)), none, none], [(1, 6888374364), (13, a0)], (fQ_fails a0 3 M))) rfl trivial ?_
                obtain ⟨⟨v65, m65⟩, e_, h⟩ := xB_t h
                refine xEvG_call xml xfetch (q := (some (0, v65), m65)) rfl (hQ_takes a0 6888374364 (fQ_fails a0 3 M) _ e_) ?_
                show xEv (117, 135, [some (13, a0), some (0, (fQ_is a0 63030 M)), some (0, (fQ_is a0 279109036 M)), some (0, (fQ_is a0 385495 M)), none, none], [(0, v65)], m65) _
                refine xEvG_n xml xfetch 1 (y := (117, if v65 = 0 then 145 else 138, [some (13, a0), some (0, (fQ_is a0 63030 M)), some (0, (fQ_is a0 279109036 M)), some (0, (fQ_is a0 385495 M)), none, none], [], m65)) rfl trivial ?_
                refine xEvG_br xml xfetch (fun c_ => ?_) (fun c_ => ?_)
                · have h := xif_t c_ h
                  refine xEvG_n xml xfetch 2 (y := (117, 149, [some (13, a0), some (0, (fQ_is a0 63030 M)), some (0, (fQ_is a0 279109036 M)), some (0, (fQ_is a0 385495 M)), none, none], [(1, 323717), (13, a0)], m65)) rfl trivial ?_
                  obtain ⟨m66, e_, h⟩ := xB_t h
                  refine xEvG_call xml xfetch (q := (none, m66)) rfl (hQ_asks a0 323717 m65 _ e_) ?_
                  show xEv (117, 152, [some (13, a0), some (0, (fQ_is a0 63030 M)), some (0, (fQ_is a0 279109036 M)), some (0, (fQ_is a0 385495 M)), none, none], [], m66) _
                  refine xEvG_n xml xfetch 4 (y := (117, 156, [some (13, a0), some (0, (fQ_is a0 63030 M)), some (0, (fQ_is a0 279109036 M)), some (0, (fQ_is a0 385495 M)), none, none], [(0, 1), (13, a0), (0, 0), (13, a0)], m66)) rfl trivial ?_
                  obtain ⟨v67, e_, h⟩ := xB_t h
                  refine xEvG_call xml xfetch (q := (some (0, v67), m66)) rfl (hQ_hasRead a0 1 m66 _ e_) ?_
                  show xEv (117, 159, [some (13, a0), some (0, (fQ_is a0 63030 M)), some (0, (fQ_is a0 279109036 M)), some (0, (fQ_is a0 385495 M)), none, none], [(0, v67), (0, 0), (13, a0)], m66) _
                  refine xEvG_n xml xfetch 2 (y := (117, 161, [some (13, a0), some (0, (fQ_is a0 63030 M)), some (0, (fQ_is a0 279109036 M)), some (0, (fQ_is a0 385495 M)), none, none], [(0, (xw32 (v67 - 1))), (0, 0), (13, a0)], m66)) rfl trivial ?_
                  obtain ⟨⟨v68, m68⟩, e_, h⟩ := xB_t h
                  refine xEvG_call xml xfetch (q := (some (0, v68), m68)) rfl (hQ_number2 a0 0 (xw32 (v67 - 1)) m66 _ e_) ?_
                  show xEv (117, 164, [some (13, a0), some (0, (fQ_is a0 63030 M)), some (0, (fQ_is a0 279109036 M)), some (0, (fQ_is a0 385495 M)), none, none], [(0, v68)], m68) _
                  refine xEvG_n xml xfetch 2 (y := (117, 167, [some (13, a0), some (0, (fQ_is a0 63030 M)), some (0, (fQ_is a0 279109036 M)), some (0, (fQ_is a0 385495 M)), some (0, v68), none], [(13, a0)], m68)) rfl trivial ?_
                  obtain ⟨⟨v69, m69⟩, e_, h⟩ := xB_t h
                  refine xEvG_call xml xfetch (q := (some (0, v69), m69)) rfl (hQ_cellHere a0 m68 _ e_) ?_
                  show xEv (117, 170, [some (13, a0), some (0, (fQ_is a0 63030 M)), some (0, (fQ_is a0 279109036 M)), some (0, (fQ_is a0 385495 M)), some (0, v68), none], [(0, v69)], m69) _
                  refine xEvG_n xml xfetch 2 (y := (117, 173, [some (13, a0), some (0, (fQ_is a0 63030 M)), some (0, (fQ_is a0 279109036 M)), some (0, (fQ_is a0 385495 M)), some (0, v68), some (0, v69)], [(13, a0)], m69)) rfl trivial ?_
                  refine xEvG_call xml xfetch (q := (some (0, fQ_isGood a0 m69), m69)) rfl (hQ_isGood a0 m69 _ rfl) ?_
                  show xEv (117, 176, [some (13, a0), some (0, (fQ_is a0 63030 M)), some (0, (fQ_is a0 279109036 M)), some (0, (fQ_is a0 385495 M)), some (0, v68), some (0, v69)], [(0, (fQ_isGood a0 m69))], m69) _
                  refine xEvG_n xml xfetch 1 (y := (117, if (fQ_isGood a0 m69) = 0 then 191 else 179, [some (13, a0), some (0, (fQ_is a0 63030 M)), some (0, (fQ_is a0 279109036 M)), some (0, (fQ_is a0 385495 M)), some (0, v68), some (0, v69)], [], m69)) rfl trivial ?_
                  refine xEvG_br xml xfetch (fun c_ => ?_) (fun c_ => ?_)
                  · have h := xif_t c_ h
                    cases h
                    exact xEvG_ret xml xfetch rfl
                  · have h := xif_f c_ h
                    have a0_ := (xA_t h).1
                    have h := (xA_t h).2
                    refine xEvG_n xml xfetch 7 (y := (117, 191, [some (13, a0), some (0, (fQ_is a0 63030 M)), some (0, (fQ_is a0 279109036 M)), some (0, (fQ_is a0 385495 M)), some (0, v68), some (0, v69)], [], (xwr m69 (a0 + 11) (xw32 (96 + v68)) v69))) rfl ⟨a0_, trivial⟩ ?_
                    cases h
                    exact xEvG_ret xml xfetch rfl
                · have h := xif_f c_ h
                  refine xEvG_n xml xfetch 1 (y := (117, 139, [some (13, a0), some (0, (fQ_is a0 63030 M)), some (0, (fQ_is a0 279109036 M)), some (0, (fQ_is a0 385495 M)), none, none], [(13, a0)], m65)) rfl trivial ?_
                  obtain ⟨m71, e_, h⟩ := xB_t h
                  refine xEvG_call xml xfetch (q := (none, m71)) rfl (hQ_quarrelLine a0 m65 _ e_) ?_
                  show xEv (117, 142, [some (13, a0), some (0, (fQ_is a0 63030 M)), some (0, (fQ_is a0 279109036 M)), some (0, (fQ_is a0 385495 M)), none, none], [], m71) _
                  refine xEvG_n xml xfetch 1 (y := (117, 191, [some (13, a0), some (0, (fQ_is a0 63030 M)), some (0, (fQ_is a0 279109036 M)), some (0, (fQ_is a0 385495 M)), none, none], [], m71)) rfl trivial ?_
                  cases h
                  exact xEvG_ret xml xfetch rfl
              · have h := xif_f c_ h
                refine xEvG_n xml xfetch 1 (y := (117, 96, [some (13, a0), some (0, (fQ_is a0 63030 M)), some (0, (fQ_is a0 279109036 M)), some (0, (fQ_is a0 385495 M)), none, none], [(13, a0)], (fQ_fails a0 3 M))) rfl trivial ?_
                obtain ⟨m72, e_, h⟩ := xB_t h
                refine xEvG_call xml xfetch (q := (none, m72)) rfl (hQ_next a0 (fQ_fails a0 3 M) _ e_) ?_
                show xEv (117, 99, [some (13, a0), some (0, (fQ_is a0 63030 M)), some (0, (fQ_is a0 279109036 M)), some (0, (fQ_is a0 385495 M)), none, none], [], m72) _
                refine xEvG_n xml xfetch 2 (y := (117, if (fQ_is a0 63030 M) = 0 then 110 else 103, [some (13, a0), some (0, (fQ_is a0 63030 M)), some (0, (fQ_is a0 279109036 M)), some (0, (fQ_is a0 385495 M)), none, none], [], m72)) rfl trivial ?_
                refine xEvG_br xml xfetch (fun c_ => ?_) (fun c_ => ?_)
                · have h := xif_t c_ h
                  refine xEvG_n xml xfetch 2 (y := (117, if (fQ_is a0 279109036 M) = 0 then 121 else 114, [some (13, a0), some (0, (fQ_is a0 63030 M)), some (0, (fQ_is a0 279109036 M)), some (0, (fQ_is a0 385495 M)), none, none], [], m72)) rfl trivial ?_
                  refine xEvG_br xml xfetch (fun c_ => ?_) (fun c_ => ?_)
                  · have h := xif_t c_ h
                    refine xEvG_n xml xfetch 1 (y := (117, 122, [some (13, a0), some (0, (fQ_is a0 63030 M)), some (0, (fQ_is a0 279109036 M)), some (0, (fQ_is a0 385495 M)), none, none], [(13, a0)], m72)) rfl trivial ?_
                    obtain ⟨m73, e_, h⟩ := xB_t h
                    refine xEvG_call xml xfetch (q := (none, m73)) rfl (hQ_soupLine a0 m72 _ e_) ?_
                    show xEv (117, 125, [some (13, a0), some (0, (fQ_is a0 63030 M)), some (0, (fQ_is a0 279109036 M)), some (0, (fQ_is a0 385495 M)), none, none], [], m73) _
                    refine xEvG_n xml xfetch 1 (y := (117, 191, [some (13, a0), some (0, (fQ_is a0 63030 M)), some (0, (fQ_is a0 279109036 M)), some (0, (fQ_is a0 385495 M)), none, none], [], m73)) rfl trivial ?_
                    cases h
                    exact xEvG_ret xml xfetch rfl
                  · have h := xif_f c_ h
                    refine xEvG_n xml xfetch 1 (y := (117, 115, [some (13, a0), some (0, (fQ_is a0 63030 M)), some (0, (fQ_is a0 279109036 M)), some (0, (fQ_is a0 385495 M)), none, none], [(13, a0)], m72)) rfl trivial ?_
                    obtain ⟨m74, e_, h⟩ := xB_t h
                    refine xEvG_call xml xfetch (q := (none, m74)) rfl (hQ_sleepLine a0 m72 _ e_) ?_
                    show xEv (117, 118, [some (13, a0), some (0, (fQ_is a0 63030 M)), some (0, (fQ_is a0 279109036 M)), some (0, (fQ_is a0 385495 M)), none, none], [], m74) _
                    refine xEvG_n xml xfetch 1 (y := (117, 191, [some (13, a0), some (0, (fQ_is a0 63030 M)), some (0, (fQ_is a0 279109036 M)), some (0, (fQ_is a0 385495 M)), none, none], [], m74)) rfl trivial ?_
                    cases h
                    exact xEvG_ret xml xfetch rfl
                · have h := xif_f c_ h
                  refine xEvG_n xml xfetch 1 (y := (117, 104, [some (13, a0), some (0, (fQ_is a0 63030 M)), some (0, (fQ_is a0 279109036 M)), some (0, (fQ_is a0 385495 M)), none, none], [(13, a0)], m72)) rfl trivial ?_
                  obtain ⟨m75, e_, h⟩ := xB_t h
                  refine xEvG_call xml xfetch (q := (none, m75)) rfl (hQ_manLine a0 m72 _ e_) ?_
                  show xEv (117, 107, [some (13, a0), some (0, (fQ_is a0 63030 M)), some (0, (fQ_is a0 279109036 M)), some (0, (fQ_is a0 385495 M)), none, none], [], m75) _
                  refine xEvG_n xml xfetch 1 (y := (117, 191, [some (13, a0), some (0, (fQ_is a0 63030 M)), some (0, (fQ_is a0 279109036 M)), some (0, (fQ_is a0 385495 M)), none, none], [], m75)) rfl trivial ?_
                  cases h
                  exact xEvG_ret xml xfetch rfl
            · have h := xif_f c_ h
              refine xEvG_n xml xfetch 1 (y := (117, 96, [some (13, a0), some (0, (fQ_is a0 63030 M)), some (0, (fQ_is a0 279109036 M)), some (0, (fQ_is a0 385495 M)), none, none], [(13, a0)], (fQ_fails a0 3 M))) rfl trivial ?_
              obtain ⟨m76, e_, h⟩ := xB_t h
              refine xEvG_call xml xfetch (q := (none, m76)) rfl (hQ_next a0 (fQ_fails a0 3 M) _ e_) ?_
              show xEv (117, 99, [some (13, a0), some (0, (fQ_is a0 63030 M)), some (0, (fQ_is a0 279109036 M)), some (0, (fQ_is a0 385495 M)), none, none], [], m76) _
              refine xEvG_n xml xfetch 2 (y := (117, if (fQ_is a0 63030 M) = 0 then 110 else 103, [some (13, a0), some (0, (fQ_is a0 63030 M)), some (0, (fQ_is a0 279109036 M)), some (0, (fQ_is a0 385495 M)), none, none], [], m76)) rfl trivial ?_
              refine xEvG_br xml xfetch (fun c_ => ?_) (fun c_ => ?_)
              · have h := xif_t c_ h
                refine xEvG_n xml xfetch 2 (y := (117, if (fQ_is a0 279109036 M) = 0 then 121 else 114, [some (13, a0), some (0, (fQ_is a0 63030 M)), some (0, (fQ_is a0 279109036 M)), some (0, (fQ_is a0 385495 M)), none, none], [], m76)) rfl trivial ?_
                refine xEvG_br xml xfetch (fun c_ => ?_) (fun c_ => ?_)
                · have h := xif_t c_ h
                  refine xEvG_n xml xfetch 1 (y := (117, 122, [some (13, a0), some (0, (fQ_is a0 63030 M)), some (0, (fQ_is a0 279109036 M)), some (0, (fQ_is a0 385495 M)), none, none], [(13, a0)], m76)) rfl trivial ?_
                  obtain ⟨m77, e_, h⟩ := xB_t h
                  refine xEvG_call xml xfetch (q := (none, m77)) rfl (hQ_soupLine a0 m76 _ e_) ?_
                  show xEv (117, 125, [some (13, a0), some (0, (fQ_is a0 63030 M)), some (0, (fQ_is a0 279109036 M)), some (0, (fQ_is a0 385495 M)), none, none], [], m77) _
                  refine xEvG_n xml xfetch 1 (y := (117, 191, [some (13, a0), some (0, (fQ_is a0 63030 M)), some (0, (fQ_is a0 279109036 M)), some (0, (fQ_is a0 385495 M)), none, none], [], m77)) rfl trivial ?_
                  cases h
                  exact xEvG_ret xml xfetch rfl
                · have h := xif_f c_ h
                  refine xEvG_n xml xfetch 1 (y := (117, 115, [some (13, a0), some (0, (fQ_is a0 63030 M)), some (0, (fQ_is a0 279109036 M)), some (0, (fQ_is a0 385495 M)), none, none], [(13, a0)], m76)) rfl trivial ?_
                  obtain ⟨m78, e_, h⟩ := xB_t h
                  refine xEvG_call xml xfetch (q := (none, m78)) rfl (hQ_sleepLine a0 m76 _ e_) ?_
                  show xEv (117, 118, [some (13, a0), some (0, (fQ_is a0 63030 M)), some (0, (fQ_is a0 279109036 M)), some (0, (fQ_is a0 385495 M)), none, none], [], m78) _
                  refine xEvG_n xml xfetch 1 (y := (117, 191, [some (13, a0), some (0, (fQ_is a0 63030 M)), some (0, (fQ_is a0 279109036 M)), some (0, (fQ_is a0 385495 M)), none, none], [], m78)) rfl trivial ?_
                  cases h
                  exact xEvG_ret xml xfetch rfl
              · have h := xif_f c_ h
                refine xEvG_n xml xfetch 1 (y := (117, 104, [some (13, a0), some (0, (fQ_is a0 63030 M)), some (0, (fQ_is a0 279109036 M)), some (0, (fQ_is a0 385495 M)), none, none], [(13, a0)], m76)) rfl trivial ?_
                obtain ⟨m79, e_, h⟩ := xB_t h
                refine xEvG_call xml xfetch (q := (none, m79)) rfl (hQ_manLine a0 m76 _ e_) ?_
                show xEv (117, 107, [some (13, a0), some (0, (fQ_is a0 63030 M)), some (0, (fQ_is a0 279109036 M)), some (0, (fQ_is a0 385495 M)), none, none], [], m79) _
                refine xEvG_n xml xfetch 1 (y := (117, 191, [some (13, a0), some (0, (fQ_is a0 63030 M)), some (0, (fQ_is a0 279109036 M)), some (0, (fQ_is a0 385495 M)), none, none], [], m79)) rfl trivial ?_
                cases h
                exact xEvG_ret xml xfetch rfl
          · have h := xif_f c_ h
            refine xEvG_n xml xfetch 1 (y := (117, 96, [some (13, a0), some (0, (fQ_is a0 63030 M)), some (0, (fQ_is a0 279109036 M)), some (0, (fQ_is a0 385495 M)), none, none], [(13, a0)], (fQ_fails a0 3 M))) rfl trivial ?_
            obtain ⟨m80, e_, h⟩ := xB_t h
            refine xEvG_call xml xfetch (q := (none, m80)) rfl (hQ_next a0 (fQ_fails a0 3 M) _ e_) ?_
            show xEv (117, 99, [some (13, a0), some (0, (fQ_is a0 63030 M)), some (0, (fQ_is a0 279109036 M)), some (0, (fQ_is a0 385495 M)), none, none], [], m80) _
            refine xEvG_n xml xfetch 2 (y := (117, if (fQ_is a0 63030 M) = 0 then 110 else 103, [some (13, a0), some (0, (fQ_is a0 63030 M)), some (0, (fQ_is a0 279109036 M)), some (0, (fQ_is a0 385495 M)), none, none], [], m80)) rfl trivial ?_
            refine xEvG_br xml xfetch (fun c_ => ?_) (fun c_ => ?_)
            · have h := xif_t c_ h
              refine xEvG_n xml xfetch 2 (y := (117, if (fQ_is a0 279109036 M) = 0 then 121 else 114, [some (13, a0), some (0, (fQ_is a0 63030 M)), some (0, (fQ_is a0 279109036 M)), some (0, (fQ_is a0 385495 M)), none, none], [], m80)) rfl trivial ?_
              refine xEvG_br xml xfetch (fun c_ => ?_) (fun c_ => ?_)
              · have h := xif_t c_ h
                refine xEvG_n xml xfetch 1 (y := (117, 122, [some (13, a0), some (0, (fQ_is a0 63030 M)), some (0, (fQ_is a0 279109036 M)), some (0, (fQ_is a0 385495 M)), none, none], [(13, a0)], m80)) rfl trivial ?_
                obtain ⟨m81, e_, h⟩ := xB_t h
                refine xEvG_call xml xfetch (q := (none, m81)) rfl (hQ_soupLine a0 m80 _ e_) ?_
                show xEv (117, 125, [some (13, a0), some (0, (fQ_is a0 63030 M)), some (0, (fQ_is a0 279109036 M)), some (0, (fQ_is a0 385495 M)), none, none], [], m81) _
                refine xEvG_n xml xfetch 1 (y := (117, 191, [some (13, a0), some (0, (fQ_is a0 63030 M)), some (0, (fQ_is a0 279109036 M)), some (0, (fQ_is a0 385495 M)), none, none], [], m81)) rfl trivial ?_
                cases h
                exact xEvG_ret xml xfetch rfl
              · have h := xif_f c_ h
                refine xEvG_n xml xfetch 1 (y := (117, 115, [some (13, a0), some (0, (fQ_is a0 63030 M)), some (0, (fQ_is a0 279109036 M)), some (0, (fQ_is a0 385495 M)), none, none], [(13, a0)], m80)) rfl trivial ?_
                obtain ⟨m82, e_, h⟩ := xB_t h
                refine xEvG_call xml xfetch (q := (none, m82)) rfl (hQ_sleepLine a0 m80 _ e_) ?_
                show xEv (117, 118, [some (13, a0), some (0, (fQ_is a0 63030 M)), some (0, (fQ_is a0 279109036 M)), some (0, (fQ_is a0 385495 M)), none, none], [], m82) _
                refine xEvG_n xml xfetch 1 (y := (117, 191, [some (13, a0), some (0, (fQ_is a0 63030 M)), some (0, (fQ_is a0 279109036 M)), some (0, (fQ_is a0 385495 M)), none, none], [], m82)) rfl trivial ?_
                cases h
                exact xEvG_ret xml xfetch rfl
            · have h := xif_f c_ h
              refine xEvG_n xml xfetch 1 (y := (117, 104, [some (13, a0), some (0, (fQ_is a0 63030 M)), some (0, (fQ_is a0 279109036 M)), some (0, (fQ_is a0 385495 M)), none, none], [(13, a0)], m80)) rfl trivial ?_
              obtain ⟨m83, e_, h⟩ := xB_t h
              refine xEvG_call xml xfetch (q := (none, m83)) rfl (hQ_manLine a0 m80 _ e_) ?_
              show xEv (117, 107, [some (13, a0), some (0, (fQ_is a0 63030 M)), some (0, (fQ_is a0 279109036 M)), some (0, (fQ_is a0 385495 M)), none, none], [], m83) _
              refine xEvG_n xml xfetch 1 (y := (117, 191, [some (13, a0), some (0, (fQ_is a0 63030 M)), some (0, (fQ_is a0 279109036 M)), some (0, (fQ_is a0 385495 M)), none, none], [], m83)) rfl trivial ?_
              cases h
              exact xEvG_ret xml xfetch rfl
        · have h := xif_f c_ h
          cases h
          exact xEvG_ret xml xfetch rfl
      · have h := xif_f c_ h
        refine xEvG_n xml xfetch 2 (y := (117, if (fQ_is a0 385495 M) = 0 then 75 else 59, [some (13, a0), some (0, (fQ_is a0 63030 M)), some (0, (fQ_is a0 279109036 M)), some (0, (fQ_is a0 385495 M)), none, none], [], M)) rfl trivial ?_
        refine xEvG_br xml xfetch (fun c_ => ?_) (fun c_ => ?_)
        · have h := xif_t c_ h
          refine xEvG_n xml xfetch 3 (y := (117, if (M a0 12) = 0 then 83 else 82, [some (13, a0), some (0, (fQ_is a0 63030 M)), some (0, (fQ_is a0 279109036 M)), some (0, (fQ_is a0 385495 M)), none, none], [], M)) rfl trivial ?_
          refine xEvG_br xml xfetch (fun c_ => ?_) (fun c_ => ?_)
          · have h := xif_t c_ h
            refine xEvG_n xml xfetch 2 (y := (117, if (fQ_is a0 63030 M) = 0 then 87 else 95, [some (13, a0), some (0, (fQ_is a0 63030 M)), some (0, (fQ_is a0 279109036 M)), some (0, (fQ_is a0 385495 M)), none, none], [], M)) rfl trivial ?_
            refine xEvG_br xml xfetch (fun c_ => ?_) (fun c_ => ?_)
            · have h := xif_t c_ h
              refine xEvG_n xml xfetch 2 (y := (117, if (fQ_is a0 279109036 M) = 0 then 91 else 95, [some (13, a0), some (0, (fQ_is a0 63030 M)), some (0, (fQ_is a0 279109036 M)), some (0, (fQ_is a0 385495 M)), none, none], [], M)) rfl trivial ?_
              refine xEvG_br xml xfetch (fun c_ => ?_) (fun c_ => ?_)
              · have h := xif_t c_ h
                refine xEvG_n xml xfetch 2 (y := (117, if (fQ_is a0 385495 M) = 0 then 128 else 95, [some (13, a0), some (0, (fQ_is a0 63030 M)), some (0, (fQ_is a0 279109036 M)), some (0, (fQ_is a0 385495 M)), none, none], [], M)) rfl trivial ?_
                refine xEvG_br xml xfetch (fun c_ => ?_) (fun c_ => ?_)
                · have h := xif_t c_ h
                  refine xEvG_n xml xfetch 2 (y := (117, 132, [some (13, a0), some (0, (fQ_is a0 63030 M)), some (0, (fQ_is a0 279109036 M)), some (0, (fQ_is a0 385495 M)), none, none], [(1, 6888374364), (13, a0)], M)) rfl trivial ?_
                  obtain ⟨⟨v84, m84⟩, e_, h⟩ := xB_t h
                  refine xEvG_call xml xfetch (q := (some (0, v84), m84)) rfl (hQ_takes a0 6888374364 M _ e_) ?_
                  show xEv (117, 135, [some (13, a0), some (0, (fQ_is a0 63030 M)), some (0, (fQ_is a0 279109036 M)), some (0, (fQ_is a0 385495 M)), none, none], [(0, v84)], m84) _
                  refine xEvG_n xml xfetch 1 (y := (117, if v84 = 0 then 145 else 138, [some (13, a0), some (0, (fQ_is a0 63030 M)), some (0, (fQ_is a0 279109036 M)), some (0, (fQ_is a0 385495 M)), none, none], [], m84)) rfl trivial ?_
                  refine xEvG_br xml xfetch (fun c_ => ?_) (fun c_ => ?_)
                  · have h := xif_t c_ h
                    refine xEvG_n xml xfetch 2 (y := (117, 149, [some (13, a0), some (0, (fQ_is a0 63030 M)), some (0, (fQ_is a0 279109036 M)), some (0, (fQ_is a0 385495 M)), none, none], [(1, 323717), (13, a0)], m84)) rfl trivial ?_
                    obtain ⟨m85, e_, h⟩ := xB_t h
                    refine xEvG_call xml xfetch (q := (none, m85)) rfl (hQ_asks a0 323717 m84 _ e_) ?_
                    show xEv (117, 152, [some (13, a0), some (0, (fQ_is a0 63030 M)), some (0, (fQ_is a0 279109036 M)), some (0, (fQ_is a0 385495 M)), none, none], [], m85) _
                    refine xEvG_n xml xfetch 4 (y := (117, 156, [some (13, a0), some (0, (fQ_is a0 63030 M)), some (0, (fQ_is a0 279109036 M)), some (0, (fQ_is a0 385495 M)), none, none], [(0, 1), (13, a0), (0, 0), (13, a0)], m85)) rfl trivial ?_
                    obtain ⟨v86, e_, h⟩ := xB_t h
                    refine xEvG_call xml xfetch (q := (some (0, v86), m85)) rfl (hQ_hasRead a0 1 m85 _ e_) ?_
                    show xEv (117, 159, [some (13, a0), some (0, (fQ_is a0 63030 M)), some (0, (fQ_is a0 279109036 M)), some (0, (fQ_is a0 385495 M)), none, none], [(0, v86), (0, 0), (13, a0)], m85) _
                    refine xEvG_n xml xfetch 2 (y := (117, 161, [some (13, a0), some (0, (fQ_is a0 63030 M)), some (0, (fQ_is a0 279109036 M)), some (0, (fQ_is a0 385495 M)), none, none], [(0, (xw32 (v86 - 1))), (0, 0), (13, a0)], m85)) rfl trivial ?_
                    obtain ⟨⟨v87, m87⟩, e_, h⟩ := xB_t h
                    refine xEvG_call xml xfetch (q := (some (0, v87), m87)) rfl (hQ_number2 a0 0 (xw32 (v86 - 1)) m85 _ e_) ?_
                    show xEv (117, 164, [some (13, a0), some (0, (fQ_is a0 63030 M)), some (0, (fQ_is a0 279109036 M)), some (0, (fQ_is a0 385495 M)), none, none], [(0, v87)], m87) _
                    refine xEvG_n xml xfetch 2 (y := (117, 167, [some (13, a0), some (0, (fQ_is a0 63030 M)), some (0, (fQ_is a0 279109036 M)), some (0, (fQ_is a0 385495 M)), some (0, v87), none], [(13, a0)], m87)) rfl trivial ?_
                    obtain ⟨⟨v88, m88⟩, e_, h⟩ := xB_t h
                    refine xEvG_call xml xfetch (q := (some (0, v88), m88)) rfl (hQ_cellHere a0 m87 _ e_) ?_
                    show xEv (117, 170, [some (13, a0), some (0, (fQ_is a0 63030 M)), some (0, (fQ_is a0 279109036 M)), some (0, (fQ_is a0 385495 M)), some (0, v87), none], [(0, v88)], m88) _
                    refine xEvG_n xml xfetch 2 (y := (117, 173, [some (13, a0), some (0, (fQ_is a0 63030 M)), some (0, (fQ_is a0 279109036 M)), some (0, (fQ_is a0 385495 M)), some (0, v87), some (0, v88)], [(13, a0)], m88)) rfl trivial ?_
                    refine xEvG_call xml xfetch (q := (some (0, fQ_isGood a0 m88), m88)) rfl (hQ_isGood a0 m88 _ rfl) ?_
                    show xEv (117, 176, [some (13, a0), some (0, (fQ_is a0 63030 M)), some (0, (fQ_is a0 279109036 M)), some (0, (fQ_is a0 385495 M)), some (0, v87), some (0, v88)], [(0, (fQ_isGood a0 m88))], m88) _
                    refine xEvG_n xml xfetch 1 (y := (117, if (fQ_isGood a0 m88) = 0 then 191 else 179, [some (13, a0), some (0, (fQ_is a0 63030 M)), some (0, (fQ_is a0 279109036 M)), some (0, (fQ_is a0 385495 M)), some (0, v87), some (0, v88)], [], m88)) rfl trivial ?_
                    refine xEvG_br xml xfetch (fun c_ => ?_) (fun c_ => ?_)
                    · have h := xif_t c_ h
                      cases h
                      exact xEvG_ret xml xfetch rfl
                    · have h := xif_f c_ h
                      have a0_ := (xA_t h).1
                      have h := (xA_t h).2
                      refine xEvG_n xml xfetch 7 (y := (117, 191, [some (13, a0), some (0, (fQ_is a0 63030 M)), some (0, (fQ_is a0 279109036 M)), some (0, (fQ_is a0 385495 M)), some (0, v87), some (0, v88)], [], (xwr m88 (a0 + 11) (xw32 (96 + v87)) v88))) rfl ⟨a0_, trivial⟩ ?_
                      cases h
                      exact xEvG_ret xml xfetch rfl
                  · have h := xif_f c_ h
                    refine xEvG_n xml xfetch 1 (y := (117, 139, [some (13, a0), some (0, (fQ_is a0 63030 M)), some (0, (fQ_is a0 279109036 M)), some (0, (fQ_is a0 385495 M)), none, none], [(13, a0)], m84)) rfl trivial ?_
                    obtain ⟨m90, e_, h⟩ := xB_t h
                    refine xEvG_call xml xfetch (q := (none, m90)) rfl (hQ_quarrelLine a0 m84 _ e_) ?_
                    show xEv (117, 142, [some (13, a0), some (0, (fQ_is a0 63030 M)), some (0, (fQ_is a0 279109036 M)), some (0, (fQ_is a0 385495 M)), none, none], [], m90) _
                    refine xEvG_n xml xfetch 1 (y := (117, 191, [some (13, a0), some (0, (fQ_is a0 63030 M)), some (0, (fQ_is a0 279109036 M)), some (0, (fQ_is a0 385495 M)), none, none], [], m90)) rfl trivial ?_
                    cases h
                    exact xEvG_ret xml xfetch rfl
                · have h := xif_f c_ h
                  refine xEvG_n xml xfetch 1 (y := (117, 96, [some (13, a0), some (0, (fQ_is a0 63030 M)), some (0, (fQ_is a0 279109036 M)), some (0, (fQ_is a0 385495 M)), none, none], [(13, a0)], M)) rfl trivial ?_
                  obtain ⟨m91, e_, h⟩ := xB_t h
                  refine xEvG_call xml xfetch (q := (none, m91)) rfl (hQ_next a0 M _ e_) ?_
                  show xEv (117, 99, [some (13, a0), some (0, (fQ_is a0 63030 M)), some (0, (fQ_is a0 279109036 M)), some (0, (fQ_is a0 385495 M)), none, none], [], m91) _
                  refine xEvG_n xml xfetch 2 (y := (117, if (fQ_is a0 63030 M) = 0 then 110 else 103, [some (13, a0), some (0, (fQ_is a0 63030 M)), some (0, (fQ_is a0 279109036 M)), some (0, (fQ_is a0 385495 M)), none, none], [], m91)) rfl trivial ?_
                  refine xEvG_br xml xfetch (fun c_ => ?_) (fun c_ => ?_)
                  · have h := xif_t c_ h
                    refine xEvG_n xml xfetch 2 (y := (117, if (fQ_is a0 279109036 M) = 0 then 121 else 114, [some (13, a0), some (0, (fQ_is a0 63030 M)), some (0, (fQ_is a0 279109036 M)), some (0, (fQ_is a0 385495 M)), none, none], [], m91)) rfl trivial ?_
                    refine xEvG_br xml xfetch (fun c_ => ?_) (fun c_ => ?_)
                    · have h := xif_t c_ h
                      refine xEvG_n xml xfetch 1 (y := (117, 122, [some (13, a0), some (0, (fQ_is a0 63030 M)), some (0, (fQ_is a0 279109036 M)), some (0, (fQ_is a0 385495 M)), none, none], [(13, a0)], m91)) rfl trivial ?_
                      obtain ⟨m92, e_, h⟩ := xB_t h
                      refine xEvG_call xml xfetch (q := (none, m92)) rfl (hQ_soupLine a0 m91 _ e_) ?_
                      show xEv (117, 125, [some (13, a0), some (0, (fQ_is a0 63030 M)), some (0, (fQ_is a0 279109036 M)), some (0, (fQ_is a0 385495 M)), none, none], [], m92) _
                      refine xEvG_n xml xfetch 1 (y := (117, 191, [some (13, a0), some (0, (fQ_is a0 63030 M)), some (0, (fQ_is a0 279109036 M)), some (0, (fQ_is a0 385495 M)), none, none], [], m92)) rfl trivial ?_
                      cases h
                      exact xEvG_ret xml xfetch rfl
                    · have h := xif_f c_ h
                      refine xEvG_n xml xfetch 1 (y := (117, 115, [some (13, a0), some (0, (fQ_is a0 63030 M)), some (0, (fQ_is a0 279109036 M)), some (0, (fQ_is a0 385495 M)), none, none], [(13, a0)], m91)) rfl trivial ?_
                      obtain ⟨m93, e_, h⟩ := xB_t h
                      refine xEvG_call xml xfetch (q := (none, m93)) rfl (hQ_sleepLine a0 m91 _ e_) ?_
                      show xEv (117, 118, [some (13, a0), some (0, (fQ_is a0 63030 M)), some (0, (fQ_is a0 279109036 M)), some (0, (fQ_is a0 385495 M)), none, none], [], m93) _
                      refine xEvG_n xml xfetch 1 (y := (117, 191, [some (13, a0), some (0, (fQ_is a0 63030 M)), some (0, (fQ_is a0 279109036 M)), some (0, (fQ_is a0 385495 M)), none, none], [], m93)) rfl trivial ?_
                      cases h
                      exact xEvG_ret xml xfetch rfl
                  · have h := xif_f c_ h
                    refine xEvG_n xml xfetch 1 (y := (117, 104, [some (13, a0), some (0, (fQ_is a0 63030 M)), some (0, (fQ_is a0 279109036 M)), some (0, (fQ_is a0 385495 M)), none, none], [(13, a0)], m91)) rfl trivial ?_
                    obtain ⟨m94, e_, h⟩ := xB_t h
                    refine xEvG_call xml xfetch (q := (none, m94)) rfl (hQ_manLine a0 m91 _ e_) ?_
                    show xEv (117, 107, [some (13, a0), some (0, (fQ_is a0 63030 M)), some (0, (fQ_is a0 279109036 M)), some (0, (fQ_is a0 385495 M)), none, none], [], m94) _
                    refine xEvG_n xml xfetch 1 (y := (117, 191, [some (13, a0), some (0, (fQ_is a0 63030 M)), some (0, (fQ_is a0 279109036 M)), some (0, (fQ_is a0 385495 M)), none, none], [], m94)) rfl trivial ?_
                    cases h
                    exact xEvG_ret xml xfetch rfl
              · have h := xif_f c_ h
                refine xEvG_n xml xfetch 1 (y := (117, 96, [some (13, a0), some (0, (fQ_is a0 63030 M)), some (0, (fQ_is a0 279109036 M)), some (0, (fQ_is a0 385495 M)), none, none], [(13, a0)], M)) rfl trivial ?_
                obtain ⟨m95, e_, h⟩ := xB_t h
                refine xEvG_call xml xfetch (q := (none, m95)) rfl (hQ_next a0 M _ e_) ?_
                show xEv (117, 99, [some (13, a0), some (0, (fQ_is a0 63030 M)), some (0, (fQ_is a0 279109036 M)), some (0, (fQ_is a0 385495 M)), none, none], [], m95) _
                refine xEvG_n xml xfetch 2 (y := (117, if (fQ_is a0 63030 M) = 0 then 110 else 103, [some (13, a0), some (0, (fQ_is a0 63030 M)), some (0, (fQ_is a0 279109036 M)), some (0, (fQ_is a0 385495 M)), none, none], [], m95)) rfl trivial ?_
                refine xEvG_br xml xfetch (fun c_ => ?_) (fun c_ => ?_)
                · have h := xif_t c_ h
                  refine xEvG_n xml xfetch 2 (y := (117, if (fQ_is a0 279109036 M) = 0 then 121 else 114, [some (13, a0), some (0, (fQ_is a0 63030 M)), some (0, (fQ_is a0 279109036 M)), some (0, (fQ_is a0 385495 M)), none, none], [], m95)) rfl trivial ?_
                  refine xEvG_br xml xfetch (fun c_ => ?_) (fun c_ => ?_)
                  · have h := xif_t c_ h
                    refine xEvG_n xml xfetch 1 (y := (117, 122, [some (13, a0), some (0, (fQ_is a0 63030 M)), some (0, (fQ_is a0 279109036 M)), some (0, (fQ_is a0 385495 M)), none, none], [(13, a0)], m95)) rfl trivial ?_
                    obtain ⟨m96, e_, h⟩ := xB_t h
                    refine xEvG_call xml xfetch (q := (none, m96)) rfl (hQ_soupLine a0 m95 _ e_) ?_
                    show xEv (117, 125, [some (13, a0), some (0, (fQ_is a0 63030 M)), some (0, (fQ_is a0 279109036 M)), some (0, (fQ_is a0 385495 M)), none, none], [], m96) _
                    refine xEvG_n xml xfetch 1 (y := (117, 191, [some (13, a0), some (0, (fQ_is a0 63030 M)), some (0, (fQ_is a0 279109036 M)), some (0, (fQ_is a0 385495 M)), none, none], [], m96)) rfl trivial ?_
                    cases h
                    exact xEvG_ret xml xfetch rfl
                  · have h := xif_f c_ h
                    refine xEvG_n xml xfetch 1 (y := (117, 115, [some (13, a0), some (0, (fQ_is a0 63030 M)), some (0, (fQ_is a0 279109036 M)), some (0, (fQ_is a0 385495 M)), none, none], [(13, a0)], m95)) rfl trivial ?_
                    obtain ⟨m97, e_, h⟩ := xB_t h
                    refine xEvG_call xml xfetch (q := (none, m97)) rfl (hQ_sleepLine a0 m95 _ e_) ?_
                    show xEv (117, 118, [some (13, a0), some (0, (fQ_is a0 63030 M)), some (0, (fQ_is a0 279109036 M)), some (0, (fQ_is a0 385495 M)), none, none], [], m97) _
                    refine xEvG_n xml xfetch 1 (y := (117, 191, [some (13, a0), some (0, (fQ_is a0 63030 M)), some (0, (fQ_is a0 279109036 M)), some (0, (fQ_is a0 385495 M)), none, none], [], m97)) rfl trivial ?_
                    cases h
                    exact xEvG_ret xml xfetch rfl
                · have h := xif_f c_ h
                  refine xEvG_n xml xfetch 1 (y := (117, 104, [some (13, a0), some (0, (fQ_is a0 63030 M)), some (0, (fQ_is a0 279109036 M)), some (0, (fQ_is a0 385495 M)), none, none], [(13, a0)], m95)) rfl trivial ?_
                  obtain ⟨m98, e_, h⟩ := xB_t h
                  refine xEvG_call xml xfetch (q := (none, m98)) rfl (hQ_manLine a0 m95 _ e_) ?_
                  show xEv (117, 107, [some (13, a0), some (0, (fQ_is a0 63030 M)), some (0, (fQ_is a0 279109036 M)), some (0, (fQ_is a0 385495 M)), none, none], [], m98) _
                  refine xEvG_n xml xfetch 1 (y := (117, 191, [some (13, a0), some (0, (fQ_is a0 63030 M)), some (0, (fQ_is a0 279109036 M)), some (0, (fQ_is a0 385495 M)), none, none], [], m98)) rfl trivial ?_
                  cases h
                  exact xEvG_ret xml xfetch rfl
            · have h := xif_f c_ h
              refine xEvG_n xml xfetch 1 (y := (117, 96, [some (13, a0), some (0, (fQ_is a0 63030 M)), some (0, (fQ_is a0 279109036 M)), some (0, (fQ_is a0 385495 M)), none, none], [(13, a0)], M)) rfl trivial ?_
              obtain ⟨m99, e_, h⟩ := xB_t h
              refine xEvG_call xml xfetch (q := (none, m99)) rfl (hQ_next a0 M _ e_) ?_
              show xEv (117, 99, [some (13, a0), some (0, (fQ_is a0 63030 M)), some (0, (fQ_is a0 279109036 M)), some (0, (fQ_is a0 385495 M)), none, none], [], m99) _
              refine xEvG_n xml xfetch 2 (y := (117, if (fQ_is a0 63030 M) = 0 then 110 else 103, [some (13, a0), some (0, (fQ_is a0 63030 M)), some (0, (fQ_is a0 279109036 M)), some (0, (fQ_is a0 385495 M)), none, none], [], m99)) rfl trivial ?_
              refine xEvG_br xml xfetch (fun c_ => ?_) (fun c_ => ?_)
              · have h := xif_t c_ h
                refine xEvG_n xml xfetch 2 (y := (117, if (fQ_is a0 279109036 M) = 0 then 121 else 114, [some (13, a0), some (0, (fQ_is a0 63030 M)), some (0, (fQ_is a0 279109036 M)), some (0, (fQ_is a0 385495 M)), none, none], [], m99)) rfl trivial ?_
                refine xEvG_br xml xfetch (fun c_ => ?_) (fun c_ => ?_)
                · have h := xif_t c_ h
                  refine xEvG_n xml xfetch 1 (y := (117, 122, [some (13, a0), some (0, (fQ_is a0 63030 M)), some (0, (fQ_is a0 279109036 M)), some (0, (fQ_is a0 385495 M)), none, none], [(13, a0)], m99)) rfl trivial ?_
                  obtain ⟨m100, e_, h⟩ := xB_t h
                  refine xEvG_call xml xfetch (q := (none, m100)) rfl (hQ_soupLine a0 m99 _ e_) ?_
                  show xEv (117, 125, [some (13, a0), some (0, (fQ_is a0 63030 M)), some (0, (fQ_is a0 279109036 M)), some (0, (fQ_is a0 385495 M)), none, none], [], m100) _
                  refine xEvG_n xml xfetch 1 (y := (117, 191, [some (13, a0), some (0, (fQ_is a0 63030 M)), some (0, (fQ_is a0 279109036 M)), some (0, (fQ_is a0 385495 M)), none, none], [], m100)) rfl trivial ?_
                  cases h
                  exact xEvG_ret xml xfetch rfl
                · have h := xif_f c_ h
                  refine xEvG_n xml xfetch 1 (y := (117, 115, [some (13, a0), some (0, (fQ_is a0 63030 M)), some (0, (fQ_is a0 279109036 M)), some (0, (fQ_is a0 385495 M)), none, none], [(13, a0)], m99)) rfl trivial ?_
                  obtain ⟨m101, e_, h⟩ := xB_t h
                  refine xEvG_call xml xfetch (q := (none, m101)) rfl (hQ_sleepLine a0 m99 _ e_) ?_
                  show xEv (117, 118, [some (13, a0), some (0, (fQ_is a0 63030 M)), some (0, (fQ_is a0 279109036 M)), some (0, (fQ_is a0 385495 M)), none, none], [], m101) _
                  refine xEvG_n xml xfetch 1 (y := (117, 191, [some (13, a0), some (0, (fQ_is a0 63030 M)), some (0, (fQ_is a0 279109036 M)), some (0, (fQ_is a0 385495 M)), none, none], [], m101)) rfl trivial ?_
                  cases h
                  exact xEvG_ret xml xfetch rfl
              · have h := xif_f c_ h
                refine xEvG_n xml xfetch 1 (y := (117, 104, [some (13, a0), some (0, (fQ_is a0 63030 M)), some (0, (fQ_is a0 279109036 M)), some (0, (fQ_is a0 385495 M)), none, none], [(13, a0)], m99)) rfl trivial ?_
                obtain ⟨m102, e_, h⟩ := xB_t h
                refine xEvG_call xml xfetch (q := (none, m102)) rfl (hQ_manLine a0 m99 _ e_) ?_
                show xEv (117, 107, [some (13, a0), some (0, (fQ_is a0 63030 M)), some (0, (fQ_is a0 279109036 M)), some (0, (fQ_is a0 385495 M)), none, none], [], m102) _
                refine xEvG_n xml xfetch 1 (y := (117, 191, [some (13, a0), some (0, (fQ_is a0 63030 M)), some (0, (fQ_is a0 279109036 M)), some (0, (fQ_is a0 385495 M)), none, none], [], m102)) rfl trivial ?_
                cases h
                exact xEvG_ret xml xfetch rfl
          · have h := xif_f c_ h
            cases h
            exact xEvG_ret xml xfetch rfl
        · have h := xif_f c_ h
          refine xEvG_n xml xfetch 2 (y := (117, 62, [some (13, a0), some (0, (fQ_is a0 63030 M)), some (0, (fQ_is a0 279109036 M)), some (0, (fQ_is a0 385495 M)), none, none], [(0, 6), (13, a0)], M)) rfl trivial ?_
          obtain ⟨v103, e_, h⟩ := xB_t h
          refine xEvG_call xml xfetch (q := (some (0, v103), M)) rfl (hQ_hasRead a0 6 M _ e_) ?_
          show xEv (117, 65, [some (13, a0), some (0, (fQ_is a0 63030 M)), some (0, (fQ_is a0 279109036 M)), some (0, (fQ_is a0 385495 M)), none, none], [(0, v103)], M) _
          refine xEvG_n xml xfetch 2 (y := (117, if v103 = 8 then 70 else 75, [some (13, a0), some (0, (fQ_is a0 63030 M)), some (0, (fQ_is a0 279109036 M)), some (0, (fQ_is a0 385495 M)), none, none], [], M)) rfl trivial ?_
          refine xEvG_br xml xfetch (fun c_ => ?_) (fun c_ => ?_)
          · have h := xif_t c_ h
            refine xEvG_n xml xfetch 2 (y := (117, 72, [some (13, a0), some (0, (fQ_is a0 63030 M)), some (0, (fQ_is a0 279109036 M)), some (0, (fQ_is a0 385495 M)), none, none], [(0, 3), (13, a0)], M)) rfl trivial ?_
            refine xEvG_call xml xfetch (q := (none, fQ_fails a0 3 M)) rfl (hQ_fails a0 3 M _ rfl) ?_
            show xEv (117, 75, [some (13, a0), some (0, (fQ_is a0 63030 M)), some (0, (fQ_is a0 279109036 M)), some (0, (fQ_is a0 385495 M)), none, none], [], (fQ_fails a0 3 M)) _
            refine xEvG_n xml xfetch 3 (y := (117, if ((fQ_fails a0 3 M) a0 12) = 0 then 83 else 82, [some (13, a0), some (0, (fQ_is a0 63030 M)), some (0, (fQ_is a0 279109036 M)), some (0, (fQ_is a0 385495 M)), none, none], [], (fQ_fails a0 3 M))) rfl trivial ?_
            refine xEvG_br xml xfetch (fun c_ => ?_) (fun c_ => ?_)
            · have h := xif_t c_ h
              refine xEvG_n xml xfetch 2 (y := (117, if (fQ_is a0 63030 M) = 0 then 87 else 95, [some (13, a0), some (0, (fQ_is a0 63030 M)), some (0, (fQ_is a0 279109036 M)), some (0, (fQ_is a0 385495 M)), none, none], [], (fQ_fails a0 3 M))) rfl trivial ?_
              refine xEvG_br xml xfetch (fun c_ => ?_) (fun c_ => ?_)
              · have h := xif_t c_ h
                refine xEvG_n xml xfetch 2 (y := (117, if (fQ_is a0 279109036 M) = 0 then 91 else 95, [some (13, a0), some (0, (fQ_is a0 63030 M)), some (0, (fQ_is a0 279109036 M)), some (0, (fQ_is a0 385495 M)), none, none], [], (fQ_fails a0 3 M))) rfl trivial ?_
                refine xEvG_br xml xfetch (fun c_ => ?_) (fun c_ => ?_)
                · have h := xif_t c_ h
                  refine xEvG_n xml xfetch 2 (y := (117, if (fQ_is a0 385495 M) = 0 then 128 else 95, [some (13, a0), some (0, (fQ_is a0 63030 M)), some (0, (fQ_is a0 279109036 M)), some (0, (fQ_is a0 385495 M)), none, none], [], (fQ_fails a0 3 M))) rfl trivial ?_
                  refine xEvG_br xml xfetch (fun c_ => ?_) (fun c_ => ?_)
                  · have h := xif_t c_ h
                    refine xEvG_n xml xfetch 2 (y := (117, 132, [some (13, a0), some (0, (fQ_is a0 63030 M)), some (0, (fQ_is a0 279109036 M)), some (0, (fQ_is a0 385495 M)), none, none], [(1, 6888374364), (13, a0)], (fQ_fails a0 3 M))) rfl trivial ?_
                    obtain ⟨⟨v105, m105⟩, e_, h⟩ := xB_t h
                    refine xEvG_call xml xfetch (q := (some (0, v105), m105)) rfl (hQ_takes a0 6888374364 (fQ_fails a0 3 M) _ e_) ?_
                    show xEv (117, 135, [some (13, a0), some (0, (fQ_is a0 63030 M)), some (0, (fQ_is a0 279109036 M)), some (0, (fQ_is a0 385495 M)), none, none], [(0, v105)], m105) _
                    refine xEvG_n xml xfetch 1 (y := (117, if v105 = 0 then 145 else 138, [some (13, a0), some (0, (fQ_is a0 63030 M)), some (0, (fQ_is a0 279109036 M)), some (0, (fQ_is a0 385495 M)), none, none], [], m105)) rfl trivial ?_
                    refine xEvG_br xml xfetch (fun c_ => ?_) (fun c_ => ?_)
                    · have h := xif_t c_ h
                      refine xEvG_n xml xfetch 2 (y := (117, 149, [some (13, a0), some (0, (fQ_is a0 63030 M)), some (0, (fQ_is a0 279109036 M)), some (0, (fQ_is a0 385495 M)), none, none], [(1, 323717), (13, a0)], m105)) rfl trivial ?_
                      obtain ⟨m106, e_, h⟩ := xB_t h
                      refine xEvG_call xml xfetch (q := (none, m106)) rfl (hQ_asks a0 323717 m105 _ e_) ?_
                      show xEv (117, 152, [some (13, a0), some (0, (fQ_is a0 63030 M)), some (0, (fQ_is a0 279109036 M)), some (0, (fQ_is a0 385495 M)), none, none], [], m106) _
                      refine xEvG_n xml xfetch 4 (y := (117, 156, [some (13, a0), some (0, (fQ_is a0 63030 M)), some (0, (fQ_is a0 279109036 M)), some (0, (fQ_is a0 385495 M)), none, none], [(0, 1), (13, a0), (0, 0), (13, a0)], m106)) rfl trivial ?_
                      obtain ⟨v107, e_, h⟩ := xB_t h
                      refine xEvG_call xml xfetch (q := (some (0, v107), m106)) rfl (hQ_hasRead a0 1 m106 _ e_) ?_
                      show xEv (117, 159, [some (13, a0), some (0, (fQ_is a0 63030 M)), some (0, (fQ_is a0 279109036 M)), some (0, (fQ_is a0 385495 M)), none, none], [(0, v107), (0, 0), (13, a0)], m106) _
                      refine xEvG_n xml xfetch 2 (y := (117, 161, [some (13, a0), some (0, (fQ_is a0 63030 M)), some (0, (fQ_is a0 279109036 M)), some (0, (fQ_is a0 385495 M)), none, none], [(0, (xw32 (v107 - 1))), (0, 0), (13, a0)], m106)) rfl trivial ?_
                      obtain ⟨⟨v108, m108⟩, e_, h⟩ := xB_t h
                      refine xEvG_call xml xfetch (q := (some (0, v108), m108)) rfl (hQ_number2 a0 0 (xw32 (v107 - 1)) m106 _ e_) ?_
                      show xEv (117, 164, [some (13, a0), some (0, (fQ_is a0 63030 M)), some (0, (fQ_is a0 279109036 M)), some (0, (fQ_is a0 385495 M)), none, none], [(0, v108)], m108) _
                      refine xEvG_n xml xfetch 2 (y := (117, 167, [some (13, a0), some (0, (fQ_is a0 63030 M)), some (0, (fQ_is a0 279109036 M)), some (0, (fQ_is a0 385495 M)), some (0, v108), none], [(13, a0)], m108)) rfl trivial ?_
                      obtain ⟨⟨v109, m109⟩, e_, h⟩ := xB_t h
                      refine xEvG_call xml xfetch (q := (some (0, v109), m109)) rfl (hQ_cellHere a0 m108 _ e_) ?_
                      show xEv (117, 170, [some (13, a0), some (0, (fQ_is a0 63030 M)), some (0, (fQ_is a0 279109036 M)), some (0, (fQ_is a0 385495 M)), some (0, v108), none], [(0, v109)], m109) _
                      refine xEvG_n xml xfetch 2 (y := (117, 173, [some (13, a0), some (0, (fQ_is a0 63030 M)), some (0, (fQ_is a0 279109036 M)), some (0, (fQ_is a0 385495 M)), some (0, v108), some (0, v109)], [(13, a0)], m109)) rfl trivial ?_
                      refine xEvG_call xml xfetch (q := (some (0, fQ_isGood a0 m109), m109)) rfl (hQ_isGood a0 m109 _ rfl) ?_
                      show xEv (117, 176, [some (13, a0), some (0, (fQ_is a0 63030 M)), some (0, (fQ_is a0 279109036 M)), some (0, (fQ_is a0 385495 M)), some (0, v108), some (0, v109)], [(0, (fQ_isGood a0 m109))], m109) _
                      refine xEvG_n xml xfetch 1 (y := (117, if (fQ_isGood a0 m109) = 0 then 191 else 179, [some (13, a0), some (0, (fQ_is a0 63030 M)), some (0, (fQ_is a0 279109036 M)), some (0, (fQ_is a0 385495 M)), some (0, v108), some (0, v109)], [], m109)) rfl trivial ?_
                      refine xEvG_br xml xfetch (fun c_ => ?_) (fun c_ => ?_)
                      · have h := xif_t c_ h
                        cases h
                        exact xEvG_ret xml xfetch rfl
                      · have h := xif_f c_ h
                        have a0_ := (xA_t h).1
                        have h := (xA_t h).2
                        refine xEvG_n xml xfetch 7 (y := (117, 191, [some (13, a0), some (0, (fQ_is a0 63030 M)), some (0, (fQ_is a0 279109036 M)), some (0, (fQ_is a0 385495 M)), some (0, v108), some (0, v109)], [], (xwr m109 (a0 + 11) (xw32 (96 + v108)) v109))) rfl ⟨a0_, trivial⟩ ?_
                        cases h
                        exact xEvG_ret xml xfetch rfl
                    · have h := xif_f c_ h
                      refine xEvG_n xml xfetch 1 (y := (117, 139, [some (13, a0), some (0, (fQ_is a0 63030 M)), some (0, (fQ_is a0 279109036 M)), some (0, (fQ_is a0 385495 M)), none, none], [(13, a0)], m105)) rfl trivial ?_
                      obtain ⟨m111, e_, h⟩ := xB_t h
                      refine xEvG_call xml xfetch (q := (none, m111)) rfl (hQ_quarrelLine a0 m105 _ e_) ?_
                      show xEv (117, 142, [some (13, a0), some (0, (fQ_is a0 63030 M)), some (0, (fQ_is a0 279109036 M)), some (0, (fQ_is a0 385495 M)), none, none], [], m111) _
                      refine xEvG_n xml xfetch 1 (y := (117, 191, [some (13, a0), some (0, (fQ_is a0 63030 M)), some (0, (fQ_is a0 279109036 M)), some (0, (fQ_is a0 385495 M)), none, none], [], m111)) rfl trivial ?_
                      cases h
                      exact xEvG_ret xml xfetch rfl
                  · have h := xif_f c_ h
                    refine xEvG_n xml xfetch 1 (y := (117, 96, [some (13, a0), some (0, (fQ_is a0 63030 M)), some (0, (fQ_is a0 279109036 M)), some (0, (fQ_is a0 385495 M)), none, none], [(13, a0)], (fQ_fails a0 3 M))) rfl trivial ?_
                    obtain ⟨m112, e_, h⟩ := xB_t h
                    refine xEvG_call xml xfetch (q := (none, m112)) rfl (hQ_next a0 (fQ_fails a0 3 M) _ e_) ?_
                    show xEv (117, 99, [some (13, a0), some (0, (fQ_is a0 63030 M)), some (0, (fQ_is a0 279109036 M)), some (0, (fQ_is a0 385495 M)), none, none], [], m112) _
                    refine xEvG_n xml xfetch 2 (y := (117, if (fQ_is a0 63030 M) = 0 then 110 else 103, [some (13, a0), some (0, (fQ_is a0 63030 M)), some (0, (fQ_is a0 279109036 M)), some (0, (fQ_is a0 385495 M)), none, none], [], m112)) rfl trivial ?_
                    refine xEvG_br xml xfetch (fun c_ => ?_) (fun c_ => ?_)
                    · have h := xif_t c_ h
                      refine xEvG_n xml xfetch 2 (y := (117, if (fQ_is a0 279109036 M) = 0 then 121 else 114, [some (13, a0), some (0, (fQ_is a0 63030 M)), some (0, (fQ_is a0 279109036 M)), some (0, (fQ_is a0 385495 M)), none, none], [], m112)) rfl trivial ?_
                      refine xEvG_br xml xfetch (fun c_ => ?_) (fun c_ => ?_)
                      · have h := xif_t c_ h
                        refine xEvG_n xml xfetch 1 (y := (117, 122, [some (13, a0), some (0, (fQ_is a0 63030 M)), some (0, (fQ_is a0 279109036 M)), some (0, (fQ_is a0 385495 M)), none, none], [(13, a0)], m112)) rfl trivial ?_
                        obtain ⟨m113, e_, h⟩ := xB_t h
                        refine xEvG_call xml xfetch (q := (none, m113)) rfl (hQ_soupLine a0 m112 _ e_) ?_
                        show xEv (117, 125, [some (13, a0), some (0, (fQ_is a0 63030 M)), some (0, (fQ_is a0 279109036 M)), some (0, (fQ_is a0 385495 M)), none, none], [], m113) _
                        refine xEvG_n xml xfetch 1 (y := (117, 191, [some (13, a0), some (0, (fQ_is a0 63030 M)), some (0, (fQ_is a0 279109036 M)), some (0, (fQ_is a0 385495 M)), none, none], [], m113)) rfl trivial ?_
                        cases h
                        exact xEvG_ret xml xfetch rfl
                      · have h := xif_f c_ h
                        refine xEvG_n xml xfetch 1 (y := (117, 115, [some (13, a0), some (0, (fQ_is a0 63030 M)), some (0, (fQ_is a0 279109036 M)), some (0, (fQ_is a0 385495 M)), none, none], [(13, a0)], m112)) rfl trivial ?_
                        obtain ⟨m114, e_, h⟩ := xB_t h
                        refine xEvG_call xml xfetch (q := (none, m114)) rfl (hQ_sleepLine a0 m112 _ e_) ?_
                        show xEv (117, 118, [some (13, a0), some (0, (fQ_is a0 63030 M)), some (0, (fQ_is a0 279109036 M)), some (0, (fQ_is a0 385495 M)), none, none], [], m114) _
                        refine xEvG_n xml xfetch 1 (y := (117, 191, [some (13, a0), some (0, (fQ_is a0 63030 M)), some (0, (fQ_is a0 279109036 M)), some (0, (fQ_is a0 385495 M)), none, none], [], m114)) rfl trivial ?_
                        cases h
                        exact xEvG_ret xml xfetch rfl
                    · have h := xif_f c_ h
                      refine xEvG_n xml xfetch 1 (y := (117, 104, [some (13, a0), some (0, (fQ_is a0 63030 M)), some (0, (fQ_is a0 279109036 M)), some (0, (fQ_is a0 385495 M)), none, none], [(13, a0)], m112)) rfl trivial ?_
                      obtain ⟨m115, e_, h⟩ := xB_t h
                      refine xEvG_call xml xfetch (q := (none, m115)) rfl (hQ_manLine a0 m112 _ e_) ?_
                      show xEv (117, 107, [some (13, a0), some (0, (fQ_is a0 63030 M)), some (0, (fQ_is a0 279109036 M)), some (0, (fQ_is a0 385495 M)), none, none], [], m115) _
                      refine xEvG_n xml xfetch 1 (y := (117, 191, [some (13, a0), some (0, (fQ_is a0 63030 M)), some (0, (fQ_is a0 279109036 M)), some (0, (fQ_is a0 385495 M)), none, none], [], m115)) rfl trivial ?_
                      cases h
                      exact xEvG_ret xml xfetch rfl
                · have h := xif_f c_ h
                  refine xEvG_n xml xfetch 1 (y := (117, 96, [some (13, a0), some (0, (fQ_is a0 63030 M)), some (0, (fQ_is a0 279109036 M)), some (0, (fQ_is a0 385495 M)), none, none], [(13, a0)], (fQ_fails a0 3 M))) rfl trivial ?_
                  obtain ⟨m116, e_, h⟩ := xB_t h
                  refine xEvG_call xml xfetch (q := (none, m116)) rfl (hQ_next a0 (fQ_fails a0 3 M) _ e_) ?_
                  show xEv (117, 99, [some (13, a0), some (0, (fQ_is a0 63030 M)), some (0, (fQ_is a0 279109036 M)), some (0, (fQ_is a0 385495 M)), none, none], [], m116) _
                  refine xEvG_n xml xfetch 2 (y := (117, if (fQ_is a0 63030 M) = 0 then 110 else 103, [some (13, a0), some (0, (fQ_is a0 63030 M)), some (0, (fQ_is a0 279109036 M)), some (0, (fQ_is a0 385495 M)), none, none], [], m116)) rfl trivial ?_
                  refine xEvG_br xml xfetch (fun c_ => ?_) (fun c_ => ?_)
                  · have h := xif_t c_ h
                    refine xEvG_n xml xfetch 2 (y := (117, if (fQ_is a0 279109036 M) = 0 then 121 else 114, [some (13, a0), some (0, (fQ_is a0 63030 M)), some (0, (fQ_is a0 279109036 M)), some (0, (fQ_is a0 385495 M)), none, none], [], m116)) rfl trivial ?_
                    refine xEvG_br xml xfetch (fun c_ => ?_) (fun c_ => ?_)
                    · have h := xif_t c_ h
                      refine xEvG_n xml xfetch 1 (y := (117, 122, [some (13, a0), some (0, (fQ_is a0 63030 M)), some (0, (fQ_is a0 279109036 M)), some (0, (fQ_is a0 385495 M)), none, none], [(13, a0)], m116)) rfl trivial ?_
                      obtain ⟨m117, e_, h⟩ := xB_t h
                      refine xEvG_call xml xfetch (q := (none, m117)) rfl (hQ_soupLine a0 m116 _ e_) ?_
                      show xEv (117, 125, [some (13, a0), some (0, (fQ_is a0 63030 M)), some (0, (fQ_is a0 279109036 M)), some (0, (fQ_is a0 385495 M)), none, none], [], m117) _
                      refine xEvG_n xml xfetch 1 (y := (117, 191, [some (13, a0), some (0, (fQ_is a0 63030 M)), some (0, (fQ_is a0 279109036 M)), some (0, (fQ_is a0 385495 M)), none, none], [], m117)) rfl trivial ?_
                      cases h
                      exact xEvG_ret xml xfetch rfl
                    · have h := xif_f c_ h
                      refine xEvG_n xml xfetch 1 (y := (117, 115, [some (13, a0), some (0, (fQ_is a0 63030 M)), some (0, (fQ_is a0 279109036 M)), some (0, (fQ_is a0 385495 M)), none, none], [(13, a0)], m116)) rfl trivial ?_
                      obtain ⟨m118, e_, h⟩ := xB_t h
                      refine xEvG_call xml xfetch (q := (none, m118)) rfl (hQ_sleepLine a0 m116 _ e_) ?_
                      show xEv (117, 118, [some (13, a0), some (0, (fQ_is a0 63030 M)), some (0, (fQ_is a0 279109036 M)), some (0, (fQ_is a0 385495 M)), none, none], [], m118) _
                      refine xEvG_n xml xfetch 1 (y := (117, 191, [some (13, a0), some (0, (fQ_is a0 63030 M)), some (0, (fQ_is a0 279109036 M)), some (0, (fQ_is a0 385495 M)), none, none], [], m118)) rfl trivial ?_
                      cases h
                      exact xEvG_ret xml xfetch rfl
                  · have h := xif_f c_ h
                    refine xEvG_n xml xfetch 1 (y := (117, 104, [some (13, a0), some (0, (fQ_is a0 63030 M)), some (0, (fQ_is a0 279109036 M)), some (0, (fQ_is a0 385495 M)), none, none], [(13, a0)], m116)) rfl trivial ?_
                    obtain ⟨m119, e_, h⟩ := xB_t h
                    refine xEvG_call xml xfetch (q := (none, m119)) rfl (hQ_manLine a0 m116 _ e_) ?_
                    show xEv (117, 107, [some (13, a0), some (0, (fQ_is a0 63030 M)), some (0, (fQ_is a0 279109036 M)), some (0, (fQ_is a0 385495 M)), none, none], [], m119) _
                    refine xEvG_n xml xfetch 1 (y := (117, 191, [some (13, a0), some (0, (fQ_is a0 63030 M)), some (0, (fQ_is a0 279109036 M)), some (0, (fQ_is a0 385495 M)), none, none], [], m119)) rfl trivial ?_
                    cases h
                    exact xEvG_ret xml xfetch rfl
              · have h := xif_f c_ h
                refine xEvG_n xml xfetch 1 (y := (117, 96, [some (13, a0), some (0, (fQ_is a0 63030 M)), some (0, (fQ_is a0 279109036 M)), some (0, (fQ_is a0 385495 M)), none, none], [(13, a0)], (fQ_fails a0 3 M))) rfl trivial ?_
                obtain ⟨m120, e_, h⟩ := xB_t h
                refine xEvG_call xml xfetch (q := (none, m120)) rfl (hQ_next a0 (fQ_fails a0 3 M) _ e_) ?_
                show xEv (117, 99, [some (13, a0), some (0, (fQ_is a0 63030 M)), some (0, (fQ_is a0 279109036 M)), some (0, (fQ_is a0 385495 M)), none, none], [], m120) _
                refine xEvG_n xml xfetch 2 (y := (117, if (fQ_is a0 63030 M) = 0 then 110 else 103, [some (13, a0), some (0, (fQ_is a0 63030 M)), some (0, (fQ_is a0 279109036 M)), some (0, (fQ_is a0 385495 M)), none, none], [], m120)) rfl trivial ?_
                refine xEvG_br xml xfetch (fun c_ => ?_) (fun c_ => ?_)
                · have h := xif_t c_ h
                  refine xEvG_n xml xfetch 2 (y := (117, if (fQ_is a0 279109036 M) = 0 then 121 else 114, [some (13, a0), some (0, (fQ_is a0 63030 M)), some (0, (fQ_is a0 279109036 M)), some (0, (fQ_is a0 385495 M)), none, none], [], m120)) rfl trivial ?_
                  refine xEvG_br xml xfetch (fun c_ => ?_) (fun c_ => ?_)
                  · have h := xif_t c_ h
                    refine xEvG_n xml xfetch 1 (y := (117, 122, [some (13, a0), some (0, (fQ_is a0 63030 M)), some (0, (fQ_is a0 279109036 M)), some (0, (fQ_is a0 385495 M)), none, none], [(13, a0)], m120)) rfl trivial ?_
                    obtain ⟨m121, e_, h⟩ := xB_t h
                    refine xEvG_call xml xfetch (q := (none, m121)) rfl (hQ_soupLine a0 m120 _ e_) ?_
                    show xEv (117, 125, [some (13, a0), some (0, (fQ_is a0 63030 M)), some (0, (fQ_is a0 279109036 M)), some (0, (fQ_is a0 385495 M)), none, none], [], m121) _
                    refine xEvG_n xml xfetch 1 (y := (117, 191, [some (13, a0), some (0, (fQ_is a0 63030 M)), some (0, (fQ_is a0 279109036 M)), some (0, (fQ_is a0 385495 M)), none, none], [], m121)) rfl trivial ?_
                    cases h
                    exact xEvG_ret xml xfetch rfl
                  · have h := xif_f c_ h
                    refine xEvG_n xml xfetch 1 (y := (117, 115, [some (13, a0), some (0, (fQ_is a0 63030 M)), some (0, (fQ_is a0 279109036 M)), some (0, (fQ_is a0 385495 M)), none, none], [(13, a0)], m120)) rfl trivial ?_
                    obtain ⟨m122, e_, h⟩ := xB_t h
                    refine xEvG_call xml xfetch (q := (none, m122)) rfl (hQ_sleepLine a0 m120 _ e_) ?_
                    show xEv (117, 118, [some (13, a0), some (0, (fQ_is a0 63030 M)), some (0, (fQ_is a0 279109036 M)), some (0, (fQ_is a0 385495 M)), none, none], [], m122) _
                    refine xEvG_n xml xfetch 1 (y := (117, 191, [some (13, a0), some (0, (fQ_is a0 63030 M)), some (0, (fQ_is a0 279109036 M)), some (0, (fQ_is a0 385495 M)), none, none], [], m122)) rfl trivial ?_
                    cases h
                    exact xEvG_ret xml xfetch rfl
                · have h := xif_f c_ h
                  refine xEvG_n xml xfetch 1 (y := (117, 104, [some (13, a0), some (0, (fQ_is a0 63030 M)), some (0, (fQ_is a0 279109036 M)), some (0, (fQ_is a0 385495 M)), none, none], [(13, a0)], m120)) rfl trivial ?_
                  obtain ⟨m123, e_, h⟩ := xB_t h
                  refine xEvG_call xml xfetch (q := (none, m123)) rfl (hQ_manLine a0 m120 _ e_) ?_
                  show xEv (117, 107, [some (13, a0), some (0, (fQ_is a0 63030 M)), some (0, (fQ_is a0 279109036 M)), some (0, (fQ_is a0 385495 M)), none, none], [], m123) _
                  refine xEvG_n xml xfetch 1 (y := (117, 191, [some (13, a0), some (0, (fQ_is a0 63030 M)), some (0, (fQ_is a0 279109036 M)), some (0, (fQ_is a0 385495 M)), none, none], [], m123)) rfl trivial ?_
                  cases h
                  exact xEvG_ret xml xfetch rfl
            · have h := xif_f c_ h
              cases h
              exact xEvG_ret xml xfetch rfl
          · have h := xif_f c_ h
            refine xEvG_n xml xfetch 3 (y := (117, if (M a0 12) = 0 then 83 else 82, [some (13, a0), some (0, (fQ_is a0 63030 M)), some (0, (fQ_is a0 279109036 M)), some (0, (fQ_is a0 385495 M)), none, none], [], M)) rfl trivial ?_
            refine xEvG_br xml xfetch (fun c_ => ?_) (fun c_ => ?_)
            · have h := xif_t c_ h
              refine xEvG_n xml xfetch 2 (y := (117, if (fQ_is a0 63030 M) = 0 then 87 else 95, [some (13, a0), some (0, (fQ_is a0 63030 M)), some (0, (fQ_is a0 279109036 M)), some (0, (fQ_is a0 385495 M)), none, none], [], M)) rfl trivial ?_
              refine xEvG_br xml xfetch (fun c_ => ?_) (fun c_ => ?_)
              · have h := xif_t c_ h
                refine xEvG_n xml xfetch 2 (y := (117, if (fQ_is a0 279109036 M) = 0 then 91 else 95, [some (13, a0), some (0, (fQ_is a0 63030 M)), some (0, (fQ_is a0 279109036 M)), some (0, (fQ_is a0 385495 M)), none, none], [], M)) rfl trivial ?_
                refine xEvG_br xml xfetch (fun c_ => ?_) (fun c_ => ?_)
                · have h := xif_t c_ h
                  refine xEvG_n xml xfetch 2 (y := (117, if (fQ_is a0 385495 M) = 0 then 128 else 95, [some (13, a0), some (0, (fQ_is a0 63030 M)), some (0, (fQ_is a0 279109036 M)), some (0, (fQ_is a0 385495 M)), none, none], [], M)) rfl trivial ?_
                  refine xEvG_br xml xfetch (fun c_ => ?_) (fun c_ => ?_)
                  · have h := xif_t c_ h
                    refine xEvG_n xml xfetch 2 (y := (117, 132, [some (13, a0), some (0, (fQ_is a0 63030 M)), some (0, (fQ_is a0 279109036 M)), some (0, (fQ_is a0 385495 M)), none, none], [(1, 6888374364), (13, a0)], M)) rfl trivial ?_
                    obtain ⟨⟨v124, m124⟩, e_, h⟩ := xB_t h
                    refine xEvG_call xml xfetch (q := (some (0, v124), m124)) rfl (hQ_takes a0 6888374364 M _ e_) ?_
                    show xEv (117, 135, [some (13, a0), some (0, (fQ_is a0 63030 M)), some (0, (fQ_is a0 279109036 M)), some (0, (fQ_is a0 385495 M)), none, none], [(0, v124)], m124) _
                    refine xEvG_n xml xfetch 1 (y := (117, if v124 = 0 then 145 else 138, [some (13, a0), some (0, (fQ_is a0 63030 M)), some (0, (fQ_is a0 279109036 M)), some (0, (fQ_is a0 385495 M)), none, none], [], m124)) rfl trivial ?_
                    refine xEvG_br xml xfetch (fun c_ => ?_) (fun c_ => ?_)
                    · have h := xif_t c_ h
                      refine xEvG_n xml xfetch 2 (y := (117, 149, [some (13, a0), some (0, (fQ_is a0 63030 M)), some (0, (fQ_is a0 279109036 M)), some (0, (fQ_is a0 385495 M)), none, none], [(1, 323717), (13, a0)], m124)) rfl trivial ?_
                      obtain ⟨m125, e_, h⟩ := xB_t h
                      refine xEvG_call xml xfetch (q := (none, m125)) rfl (hQ_asks a0 323717 m124 _ e_) ?_
                      show xEv (117, 152, [some (13, a0), some (0, (fQ_is a0 63030 M)), some (0, (fQ_is a0 279109036 M)), some (0, (fQ_is a0 385495 M)), none, none], [], m125) _
                      refine xEvG_n xml xfetch 4 (y := (117, 156, [some (13, a0), some (0, (fQ_is a0 63030 M)), some (0, (fQ_is a0 279109036 M)), some (0, (fQ_is a0 385495 M)), none, none], [(0, 1), (13, a0), (0, 0), (13, a0)], m125)) rfl trivial ?_
                      obtain ⟨v126, e_, h⟩ := xB_t h
                      refine xEvG_call xml xfetch (q := (some (0, v126), m125)) rfl (hQ_hasRead a0 1 m125 _ e_) ?_
                      show xEv (117, 159, [some (13, a0), some (0, (fQ_is a0 63030 M)), some (0, (fQ_is a0 279109036 M)), some (0, (fQ_is a0 385495 M)), none, none], [(0, v126), (0, 0), (13, a0)], m125) _
                      refine xEvG_n xml xfetch 2 (y := (117, 161, [some (13, a0), some (0, (fQ_is a0 63030 M)), some (0, (fQ_is a0 279109036 M)), some (0, (fQ_is a0 385495 M)), none, none], [(0, (xw32 (v126 - 1))), (0, 0), (13, a0)], m125)) rfl trivial ?_
                      obtain ⟨⟨v127, m127⟩, e_, h⟩ := xB_t h
                      refine xEvG_call xml xfetch (q := (some (0, v127), m127)) rfl (hQ_number2 a0 0 (xw32 (v126 - 1)) m125 _ e_) ?_
                      show xEv (117, 164, [some (13, a0), some (0, (fQ_is a0 63030 M)), some (0, (fQ_is a0 279109036 M)), some (0, (fQ_is a0 385495 M)), none, none], [(0, v127)], m127) _
                      refine xEvG_n xml xfetch 2 (y := (117, 167, [some (13, a0), some (0, (fQ_is a0 63030 M)), some (0, (fQ_is a0 279109036 M)), some (0, (fQ_is a0 385495 M)), some (0, v127), none], [(13, a0)], m127)) rfl trivial ?_
                      obtain ⟨⟨v128, m128⟩, e_, h⟩ := xB_t h
                      refine xEvG_call xml xfetch (q := (some (0, v128), m128)) rfl (hQ_cellHere a0 m127 _ e_) ?_
                      show xEv (117, 170, [some (13, a0), some (0, (fQ_is a0 63030 M)), some (0, (fQ_is a0 279109036 M)), some (0, (fQ_is a0 385495 M)), some (0, v127), none], [(0, v128)], m128) _
                      refine xEvG_n xml xfetch 2 (y := (117, 173, [some (13, a0), some (0, (fQ_is a0 63030 M)), some (0, (fQ_is a0 279109036 M)), some (0, (fQ_is a0 385495 M)), some (0, v127), some (0, v128)], [(13, a0)], m128)) rfl trivial ?_
                      refine xEvG_call xml xfetch (q := (some (0, fQ_isGood a0 m128), m128)) rfl (hQ_isGood a0 m128 _ rfl) ?_
                      show xEv (117, 176, [some (13, a0), some (0, (fQ_is a0 63030 M)), some (0, (fQ_is a0 279109036 M)), some (0, (fQ_is a0 385495 M)), some (0, v127), some (0, v128)], [(0, (fQ_isGood a0 m128))], m128) _
                      refine xEvG_n xml xfetch 1 (y := (117, if (fQ_isGood a0 m128) = 0 then 191 else 179, [some (13, a0), some (0, (fQ_is a0 63030 M)), some (0, (fQ_is a0 279109036 M)), some (0, (fQ_is a0 385495 M)), some (0, v127), some (0, v128)], [], m128)) rfl trivial ?_
                      refine xEvG_br xml xfetch (fun c_ => ?_) (fun c_ => ?_)
                      · have h := xif_t c_ h
                        cases h
                        exact xEvG_ret xml xfetch rfl
                      · have h := xif_f c_ h
                        have a0_ := (xA_t h).1
                        have h := (xA_t h).2
                        refine xEvG_n xml xfetch 7 (y := (117, 191, [some (13, a0), some (0, (fQ_is a0 63030 M)), some (0, (fQ_is a0 279109036 M)), some (0, (fQ_is a0 385495 M)), some (0, v127), some (0, v128)], [], (xwr m128 (a0 + 11) (xw32 (96 + v127)) v128))) rfl ⟨a0_, trivial⟩ ?_
                        cases h
                        exact xEvG_ret xml xfetch rfl
                    · have h := xif_f c_ h
                      refine xEvG_n xml xfetch 1 (y := (117, 139, [some (13, a0), some (0, (fQ_is a0 63030 M)), some (0, (fQ_is a0 279109036 M)), some (0, (fQ_is a0 385495 M)), none, none], [(13, a0)], m124)) rfl trivial ?_
                      obtain ⟨m130, e_, h⟩ := xB_t h
                      refine xEvG_call xml xfetch (q := (none, m130)) rfl (hQ_quarrelLine a0 m124 _ e_) ?_
                      show xEv (117, 142, [some (13, a0), some (0, (fQ_is a0 63030 M)), some (0, (fQ_is a0 279109036 M)), some (0, (fQ_is a0 385495 M)), none, none], [], m130) _
                      refine xEvG_n xml xfetch 1 (y := (117, 191, [some (13, a0), some (0, (fQ_is a0 63030 M)), some (0, (fQ_is a0 279109036 M)), some (0, (fQ_is a0 385495 M)), none, none], [], m130)) rfl trivial ?_
                      cases h
                      exact xEvG_ret xml xfetch rfl
                  · have h := xif_f c_ h
                    refine xEvG_n xml xfetch 1 (y := (117, 96, [some (13, a0), some (0, (fQ_is a0 63030 M)), some (0, (fQ_is a0 279109036 M)), some (0, (fQ_is a0 385495 M)), none, none], [(13, a0)], M)) rfl trivial ?_
                    obtain ⟨m131, e_, h⟩ := xB_t h
                    refine xEvG_call xml xfetch (q := (none, m131)) rfl (hQ_next a0 M _ e_) ?_
                    show xEv (117, 99, [some (13, a0), some (0, (fQ_is a0 63030 M)), some (0, (fQ_is a0 279109036 M)), some (0, (fQ_is a0 385495 M)), none, none], [], m131) _
                    refine xEvG_n xml xfetch 2 (y := (117, if (fQ_is a0 63030 M) = 0 then 110 else 103, [some (13, a0), some (0, (fQ_is a0 63030 M)), some (0, (fQ_is a0 279109036 M)), some (0, (fQ_is a0 385495 M)), none, none], [], m131)) rfl trivial ?_
                    refine xEvG_br xml xfetch (fun c_ => ?_) (fun c_ => ?_)
                    · have h := xif_t c_ h
                      refine xEvG_n xml xfetch 2 (y := (117, if (fQ_is a0 279109036 M) = 0 then 121 else 114, [some (13, a0), some (0, (fQ_is a0 63030 M)), some (0, (fQ_is a0 279109036 M)), some (0, (fQ_is a0 385495 M)), none, none], [], m131)) rfl trivial ?_
                      refine xEvG_br xml xfetch (fun c_ => ?_) (fun c_ => ?_)
                      · have h := xif_t c_ h
                        refine xEvG_n xml xfetch 1 (y := (117, 122, [some (13, a0), some (0, (fQ_is a0 63030 M)), some (0, (fQ_is a0 279109036 M)), some (0, (fQ_is a0 385495 M)), none, none], [(13, a0)], m131)) rfl trivial ?_
                        obtain ⟨m132, e_, h⟩ := xB_t h
                        refine xEvG_call xml xfetch (q := (none, m132)) rfl (hQ_soupLine a0 m131 _ e_) ?_
                        show xEv (117, 125, [some (13, a0), some (0, (fQ_is a0 63030 M)), some (0, (fQ_is a0 279109036 M)), some (0, (fQ_is a0 385495 M)), none, none], [], m132) _
                        refine xEvG_n xml xfetch 1 (y := (117, 191, [some (13, a0), some (0, (fQ_is a0 63030 M)), some (0, (fQ_is a0 279109036 M)), some (0, (fQ_is a0 385495 M)), none, none], [], m132)) rfl trivial ?_
                        cases h
                        exact xEvG_ret xml xfetch rfl
                      · have h := xif_f c_ h
                        refine xEvG_n xml xfetch 1 (y := (117, 115, [some (13, a0), some (0, (fQ_is a0 63030 M)), some (0, (fQ_is a0 279109036 M)), some (0, (fQ_is a0 385495 M)), none, none], [(13, a0)], m131)) rfl trivial ?_
                        obtain ⟨m133, e_, h⟩ := xB_t h
                        refine xEvG_call xml xfetch (q := (none, m133)) rfl (hQ_sleepLine a0 m131 _ e_) ?_
                        show xEv (117, 118, [some (13, a0), some (0, (fQ_is a0 63030 M)), some (0, (fQ_is a0 279109036 M)), some (0, (fQ_is a0 385495 M)), none, none], [], m133) _
                        refine xEvG_n xml xfetch 1 (y := (117, 191, [some (13, a0), some (0, (fQ_is a0 63030 M)), some (0, (fQ_is a0 279109036 M)), some (0, (fQ_is a0 385495 M)), none, none], [], m133)) rfl trivial ?_
                        cases h
                        exact xEvG_ret xml xfetch rfl
                    · have h := xif_f c_ h
                      refine xEvG_n xml xfetch 1 (y := (117, 104, [some (13, a0), some (0, (fQ_is a0 63030 M)), some (0, (fQ_is a0 279109036 M)), some (0, (fQ_is a0 385495 M)), none, none], [(13, a0)], m131)) rfl trivial ?_
                      obtain ⟨m134, e_, h⟩ := xB_t h
                      refine xEvG_call xml xfetch (q := (none, m134)) rfl (hQ_manLine a0 m131 _ e_) ?_
                      show xEv (117, 107, [some (13, a0), some (0, (fQ_is a0 63030 M)), some (0, (fQ_is a0 279109036 M)), some (0, (fQ_is a0 385495 M)), none, none], [], m134) _
                      refine xEvG_n xml xfetch 1 (y := (117, 191, [some (13, a0), some (0, (fQ_is a0 63030 M)), some (0, (fQ_is a0 279109036 M)), some (0, (fQ_is a0 385495 M)), none, none], [], m134)) rfl trivial ?_
                      cases h
                      exact xEvG_ret xml xfetch rfl
                · have h := xif_f c_ h
                  refine xEvG_n xml xfetch 1 (y := (117, 96, [some (13, a0), some (0, (fQ_is a0 63030 M)), some (0, (fQ_is a0 279109036 M)), some (0, (fQ_is a0 385495 M)), none, none], [(13, a0)], M)) rfl trivial ?_
                  obtain ⟨m135, e_, h⟩ := xB_t h
                  refine xEvG_call xml xfetch (q := (none, m135)) rfl (hQ_next a0 M _ e_) ?_
                  show xEv (117, 99, [some (13, a0), some (0, (fQ_is a0 63030 M)), some (0, (fQ_is a0 279109036 M)), some (0, (fQ_is a0 385495 M)), none, none], [], m135) _
                  refine xEvG_n xml xfetch 2 (y := (117, if (fQ_is a0 63030 M) = 0 then 110 else 103, [some (13, a0), some (0, (fQ_is a0 63030 M)), some (0, (fQ_is a0 279109036 M)), some (0, (fQ_is a0 385495 M)), none, none], [], m135)) rfl trivial ?_
                  refine xEvG_br xml xfetch (fun c_ => ?_) (fun c_ => ?_)
                  · have h := xif_t c_ h
                    refine xEvG_n xml xfetch 2 (y := (117, if (fQ_is a0 279109036 M) = 0 then 121 else 114, [some (13, a0), some (0, (fQ_is a0 63030 M)), some (0, (fQ_is a0 279109036 M)), some (0, (fQ_is a0 385495 M)), none, none], [], m135)) rfl trivial ?_
                    refine xEvG_br xml xfetch (fun c_ => ?_) (fun c_ => ?_)
                    · have h := xif_t c_ h
                      refine xEvG_n xml xfetch 1 (y := (117, 122, [some (13, a0), some (0, (fQ_is a0 63030 M)), some (0, (fQ_is a0 279109036 M)), some (0, (fQ_is a0 385495 M)), none, none], [(13, a0)], m135)) rfl trivial ?_
                      obtain ⟨m136, e_, h⟩ := xB_t h
                      refine xEvG_call xml xfetch (q := (none, m136)) rfl (hQ_soupLine a0 m135 _ e_) ?_
                      show xEv (117, 125, [some (13, a0), some (0, (fQ_is a0 63030 M)), some (0, (fQ_is a0 279109036 M)), some (0, (fQ_is a0 385495 M)), none, none], [], m136) _
                      refine xEvG_n xml xfetch 1 (y := (117, 191, [some (13, a0), some (0, (fQ_is a0 63030 M)), some (0, (fQ_is a0 279109036 M)), some (0, (fQ_is a0 385495 M)), none, none], [], m136)) rfl trivial ?_
                      cases h
                      exact xEvG_ret xml xfetch rfl
                    · have h := xif_f c_ h
                      refine xEvG_n xml xfetch 1 (y := (117, 115, [some (13, a0), some (0, (fQ_is a0 63030 M)), some (0, (fQ_is a0 279109036 M)), some (0, (fQ_is a0 385495 M)), none, none], [(13, a0)], m135)) rfl trivial ?_
                      obtain ⟨m137, e_, h⟩ := xB_t h
                      refine xEvG_call xml xfetch (q := (none, m137)) rfl (hQ_sleepLine a0 m135 _ e_) ?_
                      show xEv (117, 118, [some (13, a0), some (0, (fQ_is a0 63030 M)), some (0, (fQ_is a0 279109036 M)), some (0, (fQ_is a0 385495 M)), none, none], [], m137) _
                      refine xEvG_n xml xfetch 1 (y := (117, 191, [some (13, a0), some (0, (fQ_is a0 63030 M)), some (0, (fQ_is a0 279109036 M)), some (0, (fQ_is a0 385495 M)), none, none], [], m137)) rfl trivial ?_
                      cases h
                      exact xEvG_ret xml xfetch rfl
                  · have h := xif_f c_ h
                    refine xEvG_n xml xfetch 1 (y := (117, 104, [some (13, a0), some (0, (fQ_is a0 63030 M)), some (0, (fQ_is a0 279109036 M)), some (0, (fQ_is a0 385495 M)), none, none], [(13, a0)], m135)) rfl trivial ?_
                    obtain ⟨m138, e_, h⟩ := xB_t h
                    refine xEvG_call xml xfetch (q := (none, m138)) rfl (hQ_manLine a0 m135 _ e_) ?_
                    show xEv (117, 107, [some (13, a0), some (0, (fQ_is a0 63030 M)), some (0, (fQ_is a0 279109036 M)), some (0, (fQ_is a0 385495 M)), none, none], [], m138) _
                    refine xEvG_n xml xfetch 1 (y := (117, 191, [some (13, a0), some (0, (fQ_is a0 63030 M)), some (0, (fQ_is a0 279109036 M)), some (0, (fQ_is a0 385495 M)), none, none], [], m138)) rfl trivial ?_
                    cases h
                    exact xEvG_ret xml xfetch rfl
              · have h := xif_f c_ h
                refine xEvG_n xml xfetch 1 (y := (117, 96, [some (13, a0), some (0, (fQ_is a0 63030 M)), some (0, (fQ_is a0 279109036 M)), some (0, (fQ_is a0 385495 M)), none, none], [(13, a0)], M)) rfl trivial ?_
                obtain ⟨m139, e_, h⟩ := xB_t h
                refine xEvG_call xml xfetch (q := (none, m139)) rfl (hQ_next a0 M _ e_) ?_
                show xEv (117, 99, [some (13, a0), some (0, (fQ_is a0 63030 M)), some (0, (fQ_is a0 279109036 M)), some (0, (fQ_is a0 385495 M)), none, none], [], m139) _
                refine xEvG_n xml xfetch 2 (y := (117, if (fQ_is a0 63030 M) = 0 then 110 else 103, [some (13, a0), some (0, (fQ_is a0 63030 M)), some (0, (fQ_is a0 279109036 M)), some (0, (fQ_is a0 385495 M)), none, none], [], m139)) rfl trivial ?_
                refine xEvG_br xml xfetch (fun c_ => ?_) (fun c_ => ?_)
                · have h := xif_t c_ h
                  refine xEvG_n xml xfetch 2 (y := (117, if (fQ_is a0 279109036 M) = 0 then 121 else 114, [some (13, a0), some (0, (fQ_is a0 63030 M)), some (0, (fQ_is a0 279109036 M)), some (0, (fQ_is a0 385495 M)), none, none], [], m139)) rfl trivial ?_
                  refine xEvG_br xml xfetch (fun c_ => ?_) (fun c_ => ?_)
                  · have h := xif_t c_ h
                    refine xEvG_n xml xfetch 1 (y := (117, 122, [some (13, a0), some (0, (fQ_is a0 63030 M)), some (0, (fQ_is a0 279109036 M)), some (0, (fQ_is a0 385495 M)), none, none], [(13, a0)], m139)) rfl trivial ?_
                    obtain ⟨m140, e_, h⟩ := xB_t h
                    refine xEvG_call xml xfetch (q := (none, m140)) rfl (hQ_soupLine a0 m139 _ e_) ?_
                    show xEv (117, 125, [some (13, a0), some (0, (fQ_is a0 63030 M)), some (0, (fQ_is a0 279109036 M)), some (0, (fQ_is a0 385495 M)), none, none], [], m140) _
                    refine xEvG_n xml xfetch 1 (y := (117, 191, [some (13, a0), some (0, (fQ_is a0 63030 M)), some (0, (fQ_is a0 279109036 M)), some (0, (fQ_is a0 385495 M)), none, none], [], m140)) rfl trivial ?_
                    cases h
                    exact xEvG_ret xml xfetch rfl
                  · have h := xif_f c_ h
                    refine xEvG_n xml xfetch 1 (y := (117, 115, [some (13, a0), some (0, (fQ_is a0 63030 M)), some (0, (fQ_is a0 279109036 M)), some (0, (fQ_is a0 385495 M)), none, none], [(13, a0)], m139)) rfl trivial ?_
                    obtain ⟨m141, e_, h⟩ := xB_t h
                    refine xEvG_call xml xfetch (q := (none, m141)) rfl (hQ_sleepLine a0 m139 _ e_) ?_
                    show xEv (117, 118, [some (13, a0), some (0, (fQ_is a0 63030 M)), some (0, (fQ_is a0 279109036 M)), some (0, (fQ_is a0 385495 M)), none, none], [], m141) _
                    refine xEvG_n xml xfetch 1 (y := (117, 191, [some (13, a0), some (0, (fQ_is a0 63030 M)), some (0, (fQ_is a0 279109036 M)), some (0, (fQ_is a0 385495 M)), none, none], [], m141)) rfl trivial ?_
                    cases h
                    exact xEvG_ret xml xfetch rfl
                · have h := xif_f c_ h
                  refine xEvG_n xml xfetch 1 (y := (117, 104, [some (13, a0), some (0, (fQ_is a0 63030 M)), some (0, (fQ_is a0 279109036 M)), some (0, (fQ_is a0 385495 M)), none, none], [(13, a0)], m139)) rfl trivial ?_
                  obtain ⟨m142, e_, h⟩ := xB_t h
                  refine xEvG_call xml xfetch (q := (none, m142)) rfl (hQ_manLine a0 m139 _ e_) ?_
                  show xEv (117, 107, [some (13, a0), some (0, (fQ_is a0 63030 M)), some (0, (fQ_is a0 279109036 M)), some (0, (fQ_is a0 385495 M)), none, none], [], m142) _
                  refine xEvG_n xml xfetch 1 (y := (117, 191, [some (13, a0), some (0, (fQ_is a0 63030 M)), some (0, (fQ_is a0 279109036 M)), some (0, (fQ_is a0 385495 M)), none, none], [], m142)) rfl trivial ?_
                  cases h
                  exact xEvG_ret xml xfetch rfl
            · have h := xif_f c_ h
              cases h
              exact xEvG_ret xml xfetch rfl
  · have h := xif_f c_ h
    refine xEvG_n xml xfetch 2 (y := (117, 30, [some (13, a0), some (0, (fQ_is a0 63030 M)), some (0, (fQ_is a0 279109036 M)), some (0, (fQ_is a0 385495 M)), none, none], [(0, 2), (13, a0)], M)) rfl trivial ?_
    obtain ⟨v143, e_, h⟩ := xB_t h
    refine xEvG_call xml xfetch (q := (some (0, v143), M)) rfl (hQ_hasRead a0 2 M _ e_) ?_
    show xEv (117, 33, [some (13, a0), some (0, (fQ_is a0 63030 M)), some (0, (fQ_is a0 279109036 M)), some (0, (fQ_is a0 385495 M)), none, none], [(0, v143)], M) _
    refine xEvG_n xml xfetch 2 (y := (117, 35, [some (13, a0), some (0, (fQ_is a0 63030 M)), some (0, (fQ_is a0 279109036 M)), some (0, (fQ_is a0 385495 M)), none, none], [(0, 0), (13, a0), (0, v143)], M)) rfl trivial ?_
    obtain ⟨v144, e_, h⟩ := xB_t h
    refine xEvG_call xml xfetch (q := (some (0, v144), M)) rfl (hQ_hasRead a0 0 M _ e_) ?_
    show xEv (117, 38, [some (13, a0), some (0, (fQ_is a0 63030 M)), some (0, (fQ_is a0 279109036 M)), some (0, (fQ_is a0 385495 M)), none, none], [(0, v144), (0, v143)], M) _
    refine xEvG_n xml xfetch 1 (y := (117, if v143 = v144 then 70 else 41, [some (13, a0), some (0, (fQ_is a0 63030 M)), some (0, (fQ_is a0 279109036 M)), some (0, (fQ_is a0 385495 M)), none, none], [], M)) rfl trivial ?_
    refine xEvG_br xml xfetch (fun c_ => ?_) (fun c_ => ?_)
    · have h := xif_t c_ h
      refine xEvG_n xml xfetch 2 (y := (117, 72, [some (13, a0), some (0, (fQ_is a0 63030 M)), some (0, (fQ_is a0 279109036 M)), some (0, (fQ_is a0 385495 M)), none, none], [(0, 3), (13, a0)], M)) rfl trivial ?_
      refine xEvG_call xml xfetch (q := (none, fQ_fails a0 3 M)) rfl (hQ_fails a0 3 M _ rfl) ?_
      show xEv (117, 75, [some (13, a0), some (0, (fQ_is a0 63030 M)), some (0, (fQ_is a0 279109036 M)), some (0, (fQ_is a0 385495 M)), none, none], [], (fQ_fails a0 3 M)) _
      refine xEvG_n xml xfetch 3 (y := (117, if ((fQ_fails a0 3 M) a0 12) = 0 then 83 else 82, [some (13, a0), some (0, (fQ_is a0 63030 M)), some (0, (fQ_is a0 279109036 M)), some (0, (fQ_is a0 385495 M)), none, none], [], (fQ_fails a0 3 M))) rfl trivial ?_
      refine xEvG_br xml xfetch (fun c_ => ?_) (fun c_ => ?_)
      · have h := xif_t c_ h
        refine xEvG_n xml xfetch 2 (y := (117, if (fQ_is a0 63030 M) = 0 then 87 else 95, [some (13, a0), some (0, (fQ_is a0 63030 M)), some (0, (fQ_is a0 279109036 M)), some (0, (fQ_is a0 385495 M)), none, none], [], (fQ_fails a0 3 M))) rfl trivial ?_
        refine xEvG_br xml xfetch (fun c_ => ?_) (fun c_ => ?_)
        · have h := xif_t c_ h
          refine xEvG_n xml xfetch 2 (y := (117, if (fQ_is a0 279109036 M) = 0 then 91 else 95, [some (13, a0), some (0, (fQ_is a0 63030 M)), some (0, (fQ_is a0 279109036 M)), some (0, (fQ_is a0 385495 M)), none, none], [], (fQ_fails a0 3 M))) rfl trivial ?_
          refine xEvG_br xml xfetch (fun c_ => ?_) (fun c_ => ?_)
          · have h := xif_t c_ h
            refine xEvG_n xml xfetch 2 (y := (117, if (fQ_is a0 385495 M) = 0 then 128 else 95, [some (13, a0), some (0, (fQ_is a0 63030 M)), some (0, (fQ_is a0 279109036 M)), some (0, (fQ_is a0 385495 M)), none, none], [], (fQ_fails a0 3 M))) rfl trivial ?_
            refine xEvG_br xml xfetch (fun c_ => ?_) (fun c_ => ?_)
            · have h := xif_t c_ h
              refine xEvG_n xml xfetch 2 (y := (117, 132, [some (13, a0), some (0, (fQ_is a0 63030 M)), some (0, (fQ_is a0 279109036 M)), some (0, (fQ_is a0 385495 M)), none, none], [(1, 6888374364), (13, a0)], (fQ_fails a0 3 M))) rfl trivial ?_
              obtain ⟨⟨v146, m146⟩, e_, h⟩ := xB_t h
              refine xEvG_call xml xfetch (q := (some (0, v146), m146)) rfl (hQ_takes a0 6888374364 (fQ_fails a0 3 M) _ e_) ?_
              show xEv (117, 135, [some (13, a0), some (0, (fQ_is a0 63030 M)), some (0, (fQ_is a0 279109036 M)), some (0, (fQ_is a0 385495 M)), none, none], [(0, v146)], m146) _
              refine xEvG_n xml xfetch 1 (y := (117, if v146 = 0 then 145 else 138, [some (13, a0), some (0, (fQ_is a0 63030 M)), some (0, (fQ_is a0 279109036 M)), some (0, (fQ_is a0 385495 M)), none, none], [], m146)) rfl trivial ?_
              refine xEvG_br xml xfetch (fun c_ => ?_) (fun c_ => ?_)
              · have h := xif_t c_ h
                refine xEvG_n xml xfetch 2 (y := (117, 149, [some (13, a0), some (0, (fQ_is a0 63030 M)), some (0, (fQ_is a0 279109036 M)), some (0, (fQ_is a0 385495 M)), none, none], [(1, 323717), (13, a0)], m146)) rfl trivial ?_
                obtain ⟨m147, e_, h⟩ := xB_t h
                refine xEvG_call xml xfetch (q := (none, m147)) rfl (hQ_asks a0 323717 m146 _ e_) ?_
                show xEv (117, 152, [some (13, a0), some (0, (fQ_is a0 63030 M)), some (0, (fQ_is a0 279109036 M)), some (0, (fQ_is a0 385495 M)), none, none], [], m147) _
                refine xEvG_n xml xfetch 4 (y := (117, 156, [some (13, a0), some (0, (fQ_is a0 63030 M)), some (0, (fQ_is a0 279109036 M)), some (0, (fQ_is a0 385495 M)), none, none], [(0, 1), (13, a0), (0, 0), (13, a0)], m147)) rfl trivial ?_
                obtain ⟨v148, e_, h⟩ := xB_t h
                refine xEvG_call xml xfetch (q := (some (0, v148), m147)) rfl (hQ_hasRead a0 1 m147 _ e_) ?_
                show xEv (117, 159, [some (13, a0), some (0, (fQ_is a0 63030 M)), some (0, (fQ_is a0 279109036 M)), some (0, (fQ_is a0 385495 M)), none, none], [(0, v148), (0, 0), (13, a0)], m147) _
                refine xEvG_n xml xfetch 2 (y := (117, 161, [some (13, a0), some (0, (fQ_is a0 63030 M)), some (0, (fQ_is a0 279109036 M)), some (0, (fQ_is a0 385495 M)), none, none], [(0, (xw32 (v148 - 1))), (0, 0), (13, a0)], m147)) rfl trivial ?_
                obtain ⟨⟨v149, m149⟩, e_, h⟩ := xB_t h
                refine xEvG_call xml xfetch (q := (some (0, v149), m149)) rfl (hQ_number2 a0 0 (xw32 (v148 - 1)) m147 _ e_) ?_
                show xEv (117, 164, [some (13, a0), some (0, (fQ_is a0 63030 M)), some (0, (fQ_is a0 279109036 M)), some (0, (fQ_is a0 385495 M)), none, none], [(0, v149)], m149) _
                refine xEvG_n xml xfetch 2 (y := (117, 167, [some (13, a0), some (0, (fQ_is a0 63030 M)), some (0, (fQ_is a0 279109036 M)), some (0, (fQ_is a0 385495 M)), some (0, v149), none], [(13, a0)], m149)) rfl trivial ?_
                obtain ⟨⟨v150, m150⟩, e_, h⟩ := xB_t h
                refine xEvG_call xml xfetch (q := (some (0, v150), m150)) rfl (hQ_cellHere a0 m149 _ e_) ?_
                show xEv (117, 170, [some (13, a0), some (0, (fQ_is a0 63030 M)), some (0, (fQ_is a0 279109036 M)), some (0, (fQ_is a0 385495 M)), some (0, v149), none], [(0, v150)], m150) _
                refine xEvG_n xml xfetch 2 (y := (117, 173, [some (13, a0), some (0, (fQ_is a0 63030 M)), some (0, (fQ_is a0 279109036 M)), some (0, (fQ_is a0 385495 M)), some (0, v149), some (0, v150)], [(13, a0)], m150)) rfl trivial ?_
                refine xEvG_call xml xfetch (q := (some (0, fQ_isGood a0 m150), m150)) rfl (hQ_isGood a0 m150 _ rfl) ?_
                show xEv (117, 176, [some (13, a0), some (0, (fQ_is a0 63030 M)), some (0, (fQ_is a0 279109036 M)), some (0, (fQ_is a0 385495 M)), some (0, v149), some (0, v150)], [(0, (fQ_isGood a0 m150))], m150) _
                refine xEvG_n xml xfetch 1 (y := (117, if (fQ_isGood a0 m150) = 0 then 191 else 179, [some (13, a0), some (0, (fQ_is a0 63030 M)), some (0, (fQ_is a0 279109036 M)), some (0, (fQ_is a0 385495 M)), some (0, v149), some (0, v150)], [], m150)) rfl trivial ?_
                refine xEvG_br xml xfetch (fun c_ => ?_) (fun c_ => ?_)
                · have h := xif_t c_ h
                  cases h
                  exact xEvG_ret xml xfetch rfl
                · have h := xif_f c_ h
                  have a0_ := (xA_t h).1
                  have h := (xA_t h).2
                  refine xEvG_n xml xfetch 7 (y := (117, 191, [some (13, a0), some (0, (fQ_is a0 63030 M)), some (0, (fQ_is a0 279109036 M)), some (0, (fQ_is a0 385495 M)), some (0, v149), some (0, v150)], [], (xwr m150 (a0 + 11) (xw32 (96 + v149)) v150))) rfl ⟨a0_, trivial⟩ ?_
                  cases h
                  exact xEvG_ret xml xfetch rfl
              · have h := xif_f c_ h
                refine xEvG_n xml xfetch 1 (y := (117, 139, [some (13, a0), some (0, (fQ_is a0 63030 M)), some (0, (fQ_is a0 279109036 M)), some (0, (fQ_is a0 385495 M)), none, none], [(13, a0)], m146)) rfl trivial ?_
                obtain ⟨m152, e_, h⟩ := xB_t h
                refine xEvG_call xml xfetch (q := (none, m152)) rfl (hQ_quarrelLine a0 m146 _ e_) ?_
                show xEv (117, 142, [some (13, a0), some (0, (fQ_is a0 63030 M)), some (0, (fQ_is a0 279109036 M)), some (0, (fQ_is a0 385495 M)), none, none], [], m152) _
                refine xEvG_n xml xfetch 1 (y := (117, 191, [some (13, a0), some (0, (fQ_is a0 63030 M)), some (0, (fQ_is a0 279109036 M)), some (0, (fQ_is a0 385495 M)), none, none], [], m152)) rfl trivial ?_
                cases h
                exact xEvG_ret xml xfetch rfl
            · have h := xif_f c_ h
              refine xEvG_n xml xfetch 1 (y := (117, 96, [some (13, a0), some (0, (fQ_is a0 63030 M)), some (0, (fQ_is a0 279109036 M)), some (0, (fQ_is a0 385495 M)), none, none], [(13, a0)], (fQ_fails a0 3 M))) rfl trivial ?_
              obtain ⟨m153, e_, h⟩ := xB_t h
              refine xEvG_call xml xfetch (q := (none, m153)) rfl (hQ_next a0 (fQ_fails a0 3 M) _ e_) ?_
              show xEv (117, 99, [some (13, a0), some (0, (fQ_is a0 63030 M)), some (0, (fQ_is a0 279109036 M)), some (0, (fQ_is a0 385495 M)), none, none], [], m153) _
              refine xEvG_n xml xfetch 2 (y := (117, if (fQ_is a0 63030 M) = 0 then 110 else 103, [some (13, a0), some (0, (fQ_is a0 63030 M)), some (0, (fQ_is a0 279109036 M)), some (0, (fQ_is a0 385495 M)), none, none], [], m153)) rfl trivial ?_
              refine xEvG_br xml xfetch (fun c_ => ?_) (fun c_ => ?_)
              · have h := xif_t c_ h
                refine xEvG_n xml xfetch 2 (y := (117, if (fQ_is a0 279109036 M) = 0 then 121 else 114, [some (13, a0), some (0, (fQ_is a0 63030 M)), some (0, (fQ_is a0 279109036 M)), some (0, (fQ_is a0 385495 M)), none, none], [], m153)) rfl trivial ?_
                refine xEvG_br xml xfetch (fun c_ => ?_) (fun c_ => ?_)
                · have h := xif_t c_ h
                  refine xEvG_n xml xfetch 1 (y := (117, 122, [some (13, a0), some (0, (fQ_is a0 63030 M)), some (0, (fQ_is a0 279109036 M)), some (0, (fQ_is a0 385495 M)), none, none], [(13, a0)], m153)) rfl trivial ?_
                  obtain ⟨m154, e_, h⟩ := xB_t h
                  refine xEvG_call xml xfetch (q := (none, m154)) rfl (hQ_soupLine a0 m153 _ e_) ?_
                  show xEv (117, 125, [some (13, a0), some (0, (fQ_is a0 63030 M)), some (0, (fQ_is a0 279109036 M)), some (0, (fQ_is a0 385495 M)), none, none], [], m154) _
                  refine xEvG_n xml xfetch 1 (y := (117, 191, [some (13, a0), some (0, (fQ_is a0 63030 M)), some (0, (fQ_is a0 279109036 M)), some (0, (fQ_is a0 385495 M)), none, none], [], m154)) rfl trivial ?_
                  cases h
                  exact xEvG_ret xml xfetch rfl
                · have h := xif_f c_ h
                  refine xEvG_n xml xfetch 1 (y := (117, 115, [some (13, a0), some (0, (fQ_is a0 63030 M)), some (0, (fQ_is a0 279109036 M)), some (0, (fQ_is a0 385495 M)), none, none], [(13, a0)], m153)) rfl trivial ?_
                  obtain ⟨m155, e_, h⟩ := xB_t h
                  refine xEvG_call xml xfetch (q := (none, m155)) rfl (hQ_sleepLine a0 m153 _ e_) ?_
                  show xEv (117, 118, [some (13, a0), some (0, (fQ_is a0 63030 M)), some (0, (fQ_is a0 279109036 M)), some (0, (fQ_is a0 385495 M)), none, none], [], m155) _
                  refine xEvG_n xml xfetch 1 (y := (117, 191, [some (13, a0), some (0, (fQ_is a0 63030 M)), some (0, (fQ_is a0 279109036 M)), some (0, (fQ_is a0 385495 M)), none, none], [], m155)) rfl trivial ?_
                  cases h
                  exact xEvG_ret xml xfetch rfl
              · have h := xif_f c_ h
                refine xEvG_n xml xfetch 1 (y := (117, 104, [some (13, a0), some (0, (fQ_is a0 63030 M)), some (0, (fQ_is a0 279109036 M)), some (0, (fQ_is a0 385495 M)), none, none], [(13, a0)], m153)) rfl trivial ?_
                obtain ⟨m156, e_, h⟩ := xB_t h
                refine xEvG_call xml xfetch (q := (none, m156)) rfl (hQ_manLine a0 m153 _ e_) ?_
                show xEv (117, 107, [some (13, a0), some (0, (fQ_is a0 63030 M)), some (0, (fQ_is a0 279109036 M)), some (0, (fQ_is a0 385495 M)), none, none], [], m156) _
                refine xEvG_n xml xfetch 1 (y := (117, 191, [some (13, a0), some (0, (fQ_is a0 63030 M)), some (0, (fQ_is a0 279109036 M)), some (0, (fQ_is a0 385495 M)), none, none], [], m156)) rfl trivial ?_
                cases h
                exact xEvG_ret xml xfetch rfl
          · have h := xif_f c_ h
            refine xEvG_n xml xfetch 1 (y := (117, 96, [some (13, a0), some (0, (fQ_is a0 63030 M)), some (0, (fQ_is a0 279109036 M)), some (0, (fQ_is a0 385495 M)), none, none], [(13, a0)], (fQ_fails a0 3 M))) rfl trivial ?_
            obtain ⟨m157, e_, h⟩ := xB_t h
            refine xEvG_call xml xfetch (q := (none, m157)) rfl (hQ_next a0 (fQ_fails a0 3 M) _ e_) ?_
            show xEv (117, 99, [some (13, a0), some (0, (fQ_is a0 63030 M)), some (0, (fQ_is a0 279109036 M)), some (0, (fQ_is a0 385495 M)), none, none], [], m157) _
            refine xEvG_n xml xfetch 2 (y := (117, if (fQ_is a0 63030 M) = 0 then 110 else 103, [some (13, a0), some (0, (fQ_is a0 63030 M)), some (0, (fQ_is a0 279109036 M)), some (0, (fQ_is a0 385495 M)), none, none], [], m157)) rfl trivial ?_
            refine xEvG_br xml xfetch (fun c_ => ?_) (fun c_ => ?_)
            · have h := xif_t c_ h
              refine xEvG_n xml xfetch 2 (y := (117, if (fQ_is a0 279109036 M) = 0 then 121 else 114, [some (13, a0), some (0, (fQ_is a0 63030 M)), some (0, (fQ_is a0 279109036 M)), some (0, (fQ_is a0 385495 M)), none, none], [], m157)) rfl trivial ?_
              refine xEvG_br xml xfetch (fun c_ => ?_) (fun c_ => ?_)
              · have h := xif_t c_ h
                refine xEvG_n xml xfetch 1 (y := (117, 122, [some (13, a0), some (0, (fQ_is a0 63030 M)), some (0, (fQ_is a0 279109036 M)), some (0, (fQ_is a0 385495 M)), none, none], [(13, a0)], m157)) rfl trivial ?_
                obtain ⟨m158, e_, h⟩ := xB_t h
                refine xEvG_call xml xfetch (q := (none, m158)) rfl (hQ_soupLine a0 m157 _ e_) ?_
                show xEv (117, 125, [some (13, a0), some (0, (fQ_is a0 63030 M)), some (0, (fQ_is a0 279109036 M)), some (0, (fQ_is a0 385495 M)), none, none], [], m158) _
                refine xEvG_n xml xfetch 1 (y := (117, 191, [some (13, a0), some (0, (fQ_is a0 63030 M)), some (0, (fQ_is a0 279109036 M)), some (0, (fQ_is a0 385495 M)), none, none], [], m158)) rfl trivial ?_
                cases h
                exact xEvG_ret xml xfetch rfl
              · have h := xif_f c_ h
                refine xEvG_n xml xfetch 1 (y := (117, 115, [some (13, a0), some (0, (fQ_is a0 63030 M)), some (0, (fQ_is a0 279109036 M)), some (0, (fQ_is a0 385495 M)), none, none], [(13, a0)], m157)) rfl trivial ?_
                obtain ⟨m159, e_, h⟩ := xB_t h
                refine xEvG_call xml xfetch (q := (none, m159)) rfl (hQ_sleepLine a0 m157 _ e_) ?_
                show xEv (117, 118, [some (13, a0), some (0, (fQ_is a0 63030 M)), some (0, (fQ_is a0 279109036 M)), some (0, (fQ_is a0 385495 M)), none, none], [], m159) _
                refine xEvG_n xml xfetch 1 (y := (117, 191, [some (13, a0), some (0, (fQ_is a0 63030 M)), some (0, (fQ_is a0 279109036 M)), some (0, (fQ_is a0 385495 M)), none, none], [], m159)) rfl trivial ?_
                cases h
                exact xEvG_ret xml xfetch rfl
            · have h := xif_f c_ h
              refine xEvG_n xml xfetch 1 (y := (117, 104, [some (13, a0), some (0, (fQ_is a0 63030 M)), some (0, (fQ_is a0 279109036 M)), some (0, (fQ_is a0 385495 M)), none, none], [(13, a0)], m157)) rfl trivial ?_
              obtain ⟨m160, e_, h⟩ := xB_t h
              refine xEvG_call xml xfetch (q := (none, m160)) rfl (hQ_manLine a0 m157 _ e_) ?_
              show xEv (117, 107, [some (13, a0), some (0, (fQ_is a0 63030 M)), some (0, (fQ_is a0 279109036 M)), some (0, (fQ_is a0 385495 M)), none, none], [], m160) _
              refine xEvG_n xml xfetch 1 (y := (117, 191, [some (13, a0), some (0, (fQ_is a0 63030 M)), some (0, (fQ_is a0 279109036 M)), some (0, (fQ_is a0 385495 M)), none, none], [], m160)) rfl trivial ?_
              cases h
              exact xEvG_ret xml xfetch rfl
        · have h := xif_f c_ h
          refine xEvG_n xml xfetch 1 (y := (117, 96, [some (13, a0), some (0, (fQ_is a0 63030 M)), some (0, (fQ_is a0 279109036 M)), some (0, (fQ_is a0 385495 M)), none, none], [(13, a0)], (fQ_fails a0 3 M))) rfl trivial ?_
          obtain ⟨m161, e_, h⟩ := xB_t h
          refine xEvG_call xml xfetch (q := (none, m161)) rfl (hQ_next a0 (fQ_fails a0 3 M) _ e_) ?_
          show xEv (117, 99, [some (13, a0), some (0, (fQ_is a0 63030 M)), some (0, (fQ_is a0 279109036 M)), some (0, (fQ_is a0 385495 M)), none, none], [], m161) _
          refine xEvG_n xml xfetch 2 (y := (117, if (fQ_is a0 63030 M) = 0 then 110 else 103, [some (13, a0), some (0, (fQ_is a0 63030 M)), some (0, (fQ_is a0 279109036 M)), some (0, (fQ_is a0 385495 M)), none, none], [], m161)) rfl trivial ?_
          refine xEvG_br xml xfetch (fun c_ => ?_) (fun c_ => ?_)
          · have h := xif_t c_ h
            refine xEvG_n xml xfetch 2 (y := (117, if (fQ_is a0 279109036 M) = 0 then 121 else 114, [some (13, a0), some (0, (fQ_is a0 63030 M)), some (0, (fQ_is a0 279109036 M)), some (0, (fQ_is a0 385495 M)), none, none], [], m161)) rfl trivial ?_
            refine xEvG_br xml xfetch (fun c_ => ?_) (fun c_ => ?_)
            · have h := xif_t c_ h
              refine xEvG_n xml xfetch 1 (y := (117, 122, [some (13, a0), some (0, (fQ_is a0 63030 M)), some (0, (fQ_is a0 279109036 M)), some (0, (fQ_is a0 385495 M)), none, none], [(13, a0)], m161)) rfl trivial ?_
              obtain ⟨m162, e_, h⟩ := xB_t h
              refine xEvG_call xml xfetch (q := (none, m162)) rfl (hQ_soupLine a0 m161 _ e_) ?_
              show xEv (117, 125, [some (13, a0), some (0, (fQ_is a0 63030 M)), some (0, (fQ_is a0 279109036 M)), some (0, (fQ_is a0 385495 M)), none, none], [], m162) _
              refine xEvG_n xml xfetch 1 (y := (117, 191, [some (13, a0), some (0, (fQ_is a0 63030 M)), some (0, (fQ_is a0 279109036 M)), some (0, (fQ_is a0 385495 M)), none, none], [], m162)) rfl trivial ?_
              cases h
              exact xEvG_ret xml xfetch rfl
            · have h := xif_f c_ h
              refine xEvG_n xml xfetch 1 (y := (117, 115, [some (13, a0), some (0, (fQ_is a0 63030 M)), some (0, (fQ_is a0 279109036 M)), some (0, (fQ_is a0 385495 M)), none, none], [(13, a0)], m161)) rfl trivial ?_
              obtain ⟨m163, e_, h⟩ := xB_t h
              refine xEvG_call xml xfetch (q := (none, m163)) rfl (hQ_sleepLine a0 m161 _ e_) ?_
              show xEv (117, 118, [some (13, a0), some (0, (fQ_is a0 63030 M)), some (0, (fQ_is a0 279109036 M)), some (0, (fQ_is a0 385495 M)), none, none], [], m163) _
              refine xEvG_n xml xfetch 1 (y := (117, 191, [some (13, a0), some (0, (fQ_is a0 63030 M)), some (0, (fQ_is a0 279109036 M)), some (0, (fQ_is a0 385495 M)), none, none], [], m163)) rfl trivial ?_
              cases h
              exact xEvG_ret xml xfetch rfl
          · have h := xif_f c_ h
            refine xEvG_n xml xfetch 1 (y := (117, 104, [some (13, a0), some (0, (fQ_is a0 63030 M)), some (0, (fQ_is a0 279109036 M)), some (0, (fQ_is a0 385495 M)), none, none], [(13, a0)], m161)) rfl trivial ?_
            obtain ⟨m164, e_, h⟩ := xB_t h
            refine xEvG_call xml xfetch (q := (none, m164)) rfl (hQ_manLine a0 m161 _ e_) ?_
            show xEv (117, 107, [some (13, a0), some (0, (fQ_is a0 63030 M)), some (0, (fQ_is a0 279109036 M)), some (0, (fQ_is a0 385495 M)), none, none], [], m164) _
            refine xEvG_n xml xfetch 1 (y := (117, 191, [some (13, a0), some (0, (fQ_is a0 63030 M)), some (0, (fQ_is a0 279109036 M)), some (0, (fQ_is a0 385495 M)), none, none], [], m164)) rfl trivial ?_
            cases h
            exact xEvG_ret xml xfetch rfl
      · have h := xif_f c_ h
        cases h
        exact xEvG_ret xml xfetch rfl
    · have h := xif_f c_ h
      refine xEvG_n xml xfetch 2 (y := (117, if (fQ_is a0 279109036 M) = 0 then 55 else 45, [some (13, a0), some (0, (fQ_is a0 63030 M)), some (0, (fQ_is a0 279109036 M)), some (0, (fQ_is a0 385495 M)), none, none], [], M)) rfl trivial ?_
      refine xEvG_br xml xfetch (fun c_ => ?_) (fun c_ => ?_)
      · have h := xif_t c_ h
        refine xEvG_n xml xfetch 2 (y := (117, if (fQ_is a0 385495 M) = 0 then 75 else 59, [some (13, a0), some (0, (fQ_is a0 63030 M)), some (0, (fQ_is a0 279109036 M)), some (0, (fQ_is a0 385495 M)), none, none], [], M)) rfl trivial ?_
        refine xEvG_br xml xfetch (fun c_ => ?_) (fun c_ => ?_)
        · have h := xif_t c_ h
          refine xEvG_n xml xfetch 3 (y := (117, if (M a0 12) = 0 then 83 else 82, [some (13, a0), some (0, (fQ_is a0 63030 M)), some (0, (fQ_is a0 279109036 M)), some (0, (fQ_is a0 385495 M)), none, none], [], M)) rfl trivial ?_
          refine xEvG_br xml xfetch (fun c_ => ?_) (fun c_ => ?_)
          · have h := xif_t c_ h
            refine xEvG_n xml xfetch 2 (y := (117, if (fQ_is a0 63030 M) = 0 then 87 else 95, [some (13, a0), some (0, (fQ_is a0 63030 M)), some (0, (fQ_is a0 279109036 M)), some (0, (fQ_is a0 385495 M)), none, none], [], M)) rfl trivial ?_
            refine xEvG_br xml xfetch (fun c_ => ?_) (fun c_ => ?_)
            · have h := xif_t c_ h
              refine xEvG_n xml xfetch 2 (y := (117, if (fQ_is a0 279109036 M) = 0 then 91 else 95, [some (13, a0), some (0, (fQ_is a0 63030 M)), some (0, (fQ_is a0 279109036 M)), some (0, (fQ_is a0 385495 M)), none, none], [], M)) rfl trivial ?_
              refine xEvG_br xml xfetch (fun c_ => ?_) (fun c_ => ?_)
              · have h := xif_t c_ h
                refine xEvG_n xml xfetch 2 (y := (117, if (fQ_is a0 385495 M) = 0 then 128 else 95, [some (13, a0), some (0, (fQ_is a0 63030 M)), some (0, (fQ_is a0 279109036 M)), some (0, (fQ_is a0 385495 M)), none, none], [], M)) rfl trivial ?_
                refine xEvG_br xml xfetch (fun c_ => ?_) (fun c_ => ?_)
                · have h := xif_t c_ h
                  refine xEvG_n xml xfetch 2 (y := (117, 132, [some (13, a0), some (0, (fQ_is a0 63030 M)), some (0, (fQ_is a0 279109036 M)), some (0, (fQ_is a0 385495 M)), none, none], [(1, 6888374364), (13, a0)], M)) rfl trivial ?_
                  obtain ⟨⟨v165, m165⟩, e_, h⟩ := xB_t h
                  refine xEvG_call xml xfetch (q := (some (0, v165), m165)) rfl (hQ_takes a0 6888374364 M _ e_) ?_
                  show xEv (117, 135, [some (13, a0), some (0, (fQ_is a0 63030 M)), some (0, (fQ_is a0 279109036 M)), some (0, (fQ_is a0 385495 M)), none, none], [(0, v165)], m165) _
                  refine xEvG_n xml xfetch 1 (y := (117, if v165 = 0 then 145 else 138, [some (13, a0), some (0, (fQ_is a0 63030 M)), some (0, (fQ_is a0 279109036 M)), some (0, (fQ_is a0 385495 M)), none, none], [], m165)) rfl trivial ?_
                  refine xEvG_br xml xfetch (fun c_ => ?_) (fun c_ => ?_)
                  · have h := xif_t c_ h
                    refine xEvG_n xml xfetch 2 (y := (117, 149, [some (13, a0), some (0, (fQ_is a0 63030 M)), some (0, (fQ_is a0 279109036 M)), some (0, (fQ_is a0 385495 M)), none, none], [(1, 323717), (13, a0)], m165)) rfl trivial ?_
                    obtain ⟨m166, e_, h⟩ := xB_t h
                    refine xEvG_call xml xfetch (q := (none, m166)) rfl (hQ_asks a0 323717 m165 _ e_) ?_
                    show xEv (117, 152, [some (13, a0), some (0, (fQ_is a0 63030 M)), some (0, (fQ_is a0 279109036 M)), some (0, (fQ_is a0 385495 M)), none, none], [], m166) _
                    refine xEvG_n xml xfetch 4 (y := (117, 156, [some (13, a0), some (0, (fQ_is a0 63030 M)), some (0, (fQ_is a0 279109036 M)), some (0, (fQ_is a0 385495 M)), none, none], [(0, 1), (13, a0), (0, 0), (13, a0)], m166)) rfl trivial ?_
                    obtain ⟨v167, e_, h⟩ := xB_t h
                    refine xEvG_call xml xfetch (q := (some (0, v167), m166)) rfl (hQ_hasRead a0 1 m166 _ e_) ?_
                    show xEv (117, 159, [some (13, a0), some (0, (fQ_is a0 63030 M)), some (0, (fQ_is a0 279109036 M)), some (0, (fQ_is a0 385495 M)), none, none], [(0, v167), (0, 0), (13, a0)], m166) _
                    refine xEvG_n xml xfetch 2 (y := (117, 161, [some (13, a0), some (0, (fQ_is a0 63030 M)), some (0, (fQ_is a0 279109036 M)), some (0, (fQ_is a0 385495 M)), none, none], [(0, (xw32 (v167 - 1))), (0, 0), (13, a0)], m166)) rfl trivial ?_
                    obtain ⟨⟨v168, m168⟩, e_, h⟩ := xB_t h
                    refine xEvG_call xml xfetch (q := (some (0, v168), m168)) rfl (hQ_number2 a0 0 (xw32 (v167 - 1)) m166 _ e_) ?_
                    show xEv (117, 164, [some (13, a0), some (0, (fQ_is a0 63030 M)), some (0, (fQ_is a0 279109036 M)), some (0, (fQ_is a0 385495 M)), none, none], [(0, v168)], m168) _
                    refine xEvG_n xml xfetch 2 (y := (117, 167, [some (13, a0), some (0, (fQ_is a0 63030 M)), some (0, (fQ_is a0 279109036 M)), some (0, (fQ_is a0 385495 M)), some (0, v168), none], [(13, a0)], m168)) rfl trivial ?_
                    obtain ⟨⟨v169, m169⟩, e_, h⟩ := xB_t h
                    refine xEvG_call xml xfetch (q := (some (0, v169), m169)) rfl (hQ_cellHere a0 m168 _ e_) ?_
                    show xEv (117, 170, [some (13, a0), some (0, (fQ_is a0 63030 M)), some (0, (fQ_is a0 279109036 M)), some (0, (fQ_is a0 385495 M)), some (0, v168), none], [(0, v169)], m169) _
                    refine xEvG_n xml xfetch 2 (y := (117, 173, [some (13, a0), some (0, (fQ_is a0 63030 M)), some (0, (fQ_is a0 279109036 M)), some (0, (fQ_is a0 385495 M)), some (0, v168), some (0, v169)], [(13, a0)], m169)) rfl trivial ?_
                    refine xEvG_call xml xfetch (q := (some (0, fQ_isGood a0 m169), m169)) rfl (hQ_isGood a0 m169 _ rfl) ?_
                    show xEv (117, 176, [some (13, a0), some (0, (fQ_is a0 63030 M)), some (0, (fQ_is a0 279109036 M)), some (0, (fQ_is a0 385495 M)), some (0, v168), some (0, v169)], [(0, (fQ_isGood a0 m169))], m169) _
                    refine xEvG_n xml xfetch 1 (y := (117, if (fQ_isGood a0 m169) = 0 then 191 else 179, [some (13, a0), some (0, (fQ_is a0 63030 M)), some (0, (fQ_is a0 279109036 M)), some (0, (fQ_is a0 385495 M)), some (0, v168), some (0, v169)], [], m169)) rfl trivial ?_
                    refine xEvG_br xml xfetch (fun c_ => ?_) (fun c_ => ?_)
                    · have h := xif_t c_ h
                      cases h
                      exact xEvG_ret xml xfetch rfl
                    · have h := xif_f c_ h
                      have a0_ := (xA_t h).1
                      have h := (xA_t h).2
                      refine xEvG_n xml xfetch 7 (y := (117, 191, [some (13, a0), some (0, (fQ_is a0 63030 M)), some (0, (fQ_is a0 279109036 M)), some (0, (fQ_is a0 385495 M)), some (0, v168), some (0, v169)], [], (xwr m169 (a0 + 11) (xw32 (96 + v168)) v169))) rfl ⟨a0_, trivial⟩ ?_
                      cases h
                      exact xEvG_ret xml xfetch rfl
                  · have h := xif_f c_ h
                    refine xEvG_n xml xfetch 1 (y := (117, 139, [some (13, a0), some (0, (fQ_is a0 63030 M)), some (0, (fQ_is a0 279109036 M)), some (0, (fQ_is a0 385495 M)), none, none], [(13, a0)], m165)) rfl trivial ?_
                    obtain ⟨m171, e_, h⟩ := xB_t h
                    refine xEvG_call xml xfetch (q := (none, m171)) rfl (hQ_quarrelLine a0 m165 _ e_) ?_
                    show xEv (117, 142, [some (13, a0), some (0, (fQ_is a0 63030 M)), some (0, (fQ_is a0 279109036 M)), some (0, (fQ_is a0 385495 M)), none, none], [], m171) _
                    refine xEvG_n xml xfetch 1 (y := (117, 191, [some (13, a0), some (0, (fQ_is a0 63030 M)), some (0, (fQ_is a0 279109036 M)), some (0, (fQ_is a0 385495 M)), none, none], [], m171)) rfl trivial ?_
                    cases h
                    exact xEvG_ret xml xfetch rfl
                · have h := xif_f c_ h
                  refine xEvG_n xml xfetch 1 (y := (117, 96, [some (13, a0), some (0, (fQ_is a0 63030 M)), some (0, (fQ_is a0 279109036 M)), some (0, (fQ_is a0 385495 M)), none, none], [(13, a0)], M)) rfl trivial ?_
                  obtain ⟨m172, e_, h⟩ := xB_t h
                  refine xEvG_call xml xfetch (q := (none, m172)) rfl (hQ_next a0 M _ e_) ?_
                  show xEv (117, 99, [some (13, a0), some (0, (fQ_is a0 63030 M)), some (0, (fQ_is a0 279109036 M)), some (0, (fQ_is a0 385495 M)), none, none], [], m172) _
                  refine xEvG_n xml xfetch 2 (y := (117, if (fQ_is a0 63030 M) = 0 then 110 else 103, [some (13, a0), some (0, (fQ_is a0 63030 M)), some (0, (fQ_is a0 279109036 M)), some (0, (fQ_is a0 385495 M)), none, none], [], m172)) rfl trivial ?_
                  refine xEvG_br xml xfetch (fun c_ => ?_) (fun c_ => ?_)
                  · have h := xif_t c_ h
                    refine xEvG_n xml xfetch 2 (y := (117, if (fQ_is a0 279109036 M) = 0 then 121 else 114, [some (13, a0), some (0, (fQ_is a0 63030 M)), some (0, (fQ_is a0 279109036 M)), some (0, (fQ_is a0 385495 M)), none, none], [], m172)) rfl trivial ?_
                    refine xEvG_br xml xfetch (fun c_ => ?_) (fun c_ => ?_)
                    · have h := xif_t c_ h
                      refine xEvG_n xml xfetch 1 (y := (117, 122, [some (13, a0), some (0, (fQ_is a0 63030 M)), some (0, (fQ_is a0 279109036 M)), some (0, (fQ_is a0 385495 M)), none, none], [(13, a0)], m172)) rfl trivial ?_
                      obtain ⟨m173, e_, h⟩ := xB_t h
                      refine xEvG_call xml xfetch (q := (none, m173)) rfl (hQ_soupLine a0 m172 _ e_) ?_
                      show xEv (117, 125, [some (13, a0), some (0, (fQ_is a0 63030 M)), some (0, (fQ_is a0 279109036 M)), some (0, (fQ_is a0 385495 M)), none, none], [], m173) _
                      refine xEvG_n xml xfetch 1 (y := (117, 191, [some (13, a0), some (0, (fQ_is a0 63030 M)), some (0, (fQ_is a0 279109036 M)), some (0, (fQ_is a0 385495 M)), none, none], [], m173)) rfl trivial ?_
                      cases h
                      exact xEvG_ret xml xfetch rfl
                    · have h := xif_f c_ h
                      refine xEvG_n xml xfetch 1 (y := (117, 115, [some (13, a0), some (0, (fQ_is a0 63030 M)), some (0, (fQ_is a0 279109036 M)), some (0, (fQ_is a0 385495 M)), none, none], [(13, a0)], m172)) rfl trivial ?_
                      obtain ⟨m174, e_, h⟩ := xB_t h
                      refine xEvG_call xml xfetch (q := (none, m174)) rfl (hQ_sleepLine a0 m172 _ e_) ?_
                      show xEv (117, 118, [some (13, a0), some (0, (fQ_is a0 63030 M)), some (0, (fQ_is a0 279109036 M)), some (0, (fQ_is a0 385495 M)), none, none], [], m174) _
                      refine xEvG_n xml xfetch 1 (y := (117, 191, [some (13, a0), some (0, (fQ_is a0 63030 M)), some (0, (fQ_is a0 279109036 M)), some (0, (fQ_is a0 385495 M)), none, none], [], m174)) rfl trivial ?_
                      cases h
                      exact xEvG_ret xml xfetch rfl
                  · have h := xif_f c_ h
                    refine xEvG_n xml xfetch 1 (y := (117, 104, [some (13, a0), some (0, (fQ_is a0 63030 M)), some (0, (fQ_is a0 279109036 M)), some (0, (fQ_is a0 385495 M)), none, none], [(13, a0)], m172)) rfl trivial ?_
                    obtain ⟨m175, e_, h⟩ := xB_t h
                    refine xEvG_call xml xfetch (q := (none, m175)) rfl (hQ_manLine a0 m172 _ e_) ?_
                    show xEv (117, 107, [some (13, a0), some (0, (fQ_is a0 63030 M)), some (0, (fQ_is a0 279109036 M)), some (0, (fQ_is a0 385495 M)), none, none], [], m175) _
                    refine xEvG_n xml xfetch 1 (y := (117, 191, [some (13, a0), some (0, (fQ_is a0 63030 M)), some (0, (fQ_is a0 279109036 M)), some (0, (fQ_is a0 385495 M)), none, none], [], m175)) rfl trivial ?_
                    cases h
                    exact xEvG_ret xml xfetch rfl
              · have h := xif_f c_ h
                refine xEvG_n xml xfetch 1 (y := (117, 96, [some (13, a0), some (0, (fQ_is a0 63030 M)), some (0, (fQ_is a0 279109036 M)), some (0, (fQ_is a0 385495 M)), none, none], [(13, a0)], M)) rfl trivial ?_
                obtain ⟨m176, e_, h⟩ := xB_t h
                refine xEvG_call xml xfetch (q := (none, m176)) rfl (hQ_next a0 M _ e_) ?_
                show xEv (117, 99, [some (13, a0), some (0, (fQ_is a0 63030 M)), some (0, (fQ_is a0 279109036 M)), some (0, (fQ_is a0 385495 M)), none, none], [], m176) _
                refine xEvG_n xml xfetch 2 (y := (117, if (fQ_is a0 63030 M) = 0 then 110 else 103, [some (13, a0), some (0, (fQ_is a0 63030 M)), some (0, (fQ_is a0 279109036 M)), some (0, (fQ_is a0 385495 M)), none, none], [], m176)) rfl trivial ?_
                refine xEvG_br xml xfetch (fun c_ => ?_) (fun c_ => ?_)
                · have h := xif_t c_ h
                  refine xEvG_n xml xfetch 2 (y := (117, if (fQ_is a0 279109036 M) = 0 then 121 else 114, [some (13, a0), some (0, (fQ_is a0 63030 M)), some (0, (fQ_is a0 279109036 M)), some (0, (fQ_is a0 385495 M)), none, none], [], m176)) rfl trivial ?_
                  refine xEvG_br xml xfetch (fun c_ => ?_) (fun c_ => ?_)
                  · have h := xif_t c_ h
                    refine xEvG_n xml xfetch 1 (y := (117, 122, [some (13, a0), some (0, (fQ_is a0 63030 M)), some (0, (fQ_is a0 279109036 M)), some (0, (fQ_is a0 385495 M)), none, none], [(13, a0)], m176)) rfl trivial ?_
                    obtain ⟨m177, e_, h⟩ := xB_t h
                    refine xEvG_call xml xfetch (q := (none, m177)) rfl (hQ_soupLine a0 m176 _ e_) ?_
                    show xEv (117, 125, [some (13, a0), some (0, (fQ_is a0 63030 M)), some (0, (fQ_is a0 279109036 M)), some (0, (fQ_is a0 385495 M)), none, none], [], m177) _
                    refine xEvG_n xml xfetch 1 (y := (117, 191, [some (13, a0), some (0, (fQ_is a0 63030 M)), some (0, (fQ_is a0 279109036 M)), some (0, (fQ_is a0 385495 M)), none, none], [], m177)) rfl trivial ?_
                    cases h
                    exact xEvG_ret xml xfetch rfl
                  · have h := xif_f c_ h
                    refine xEvG_n xml xfetch 1 (y := (117, 115, [some (13, a0), some (0, (fQ_is a0 63030 M)), some (0, (fQ_is a0 279109036 M)), some (0, (fQ_is a0 385495 M)), none, none], [(13, a0)], m176)) rfl trivial ?_
                    obtain ⟨m178, e_, h⟩ := xB_t h
                    refine xEvG_call xml xfetch (q := (none, m178)) rfl (hQ_sleepLine a0 m176 _ e_) ?_
                    show xEv (117, 118, [some (13, a0), some (0, (fQ_is a0 63030 M)), some (0, (fQ_is a0 279109036 M)), some (0, (fQ_is a0 385495 M)), none, none], [], m178) _
                    refine xEvG_n xml xfetch 1 (y := (117, 191, [some (13, a0), some (0, (fQ_is a0 63030 M)), some (0, (fQ_is a0 279109036 M)), some (0, (fQ_is a0 385495 M)), none, none], [], m178)) rfl trivial ?_
                    cases h
                    exact xEvG_ret xml xfetch rfl
                · have h := xif_f c_ h
                  refine xEvG_n xml xfetch 1 (y := (117, 104, [some (13, a0), some (0, (fQ_is a0 63030 M)), some (0, (fQ_is a0 279109036 M)), some (0, (fQ_is a0 385495 M)), none, none], [(13, a0)], m176)) rfl trivial ?_
                  obtain ⟨m179, e_, h⟩ := xB_t h
                  refine xEvG_call xml xfetch (q := (none, m179)) rfl (hQ_manLine a0 m176 _ e_) ?_
                  show xEv (117, 107, [some (13, a0), some (0, (fQ_is a0 63030 M)), some (0, (fQ_is a0 279109036 M)), some (0, (fQ_is a0 385495 M)), none, none], [], m179) _
                  refine xEvG_n xml xfetch 1 (y := (117, 191, [some (13, a0), some (0, (fQ_is a0 63030 M)), some (0, (fQ_is a0 279109036 M)), some (0, (fQ_is a0 385495 M)), none, none], [], m179)) rfl trivial ?_
                  cases h
                  exact xEvG_ret xml xfetch rfl
            · have h := xif_f c_ h
              refine xEvG_n xml xfetch 1 (y := (117, 96, [some (13, a0), some (0, (fQ_is a0 63030 M)), some (0, (fQ_is a0 279109036 M)), some (0, (fQ_is a0 385495 M)), none, none], [(13, a0)], M)) rfl trivial ?_
              obtain ⟨m180, e_, h⟩ := xB_t h
              refine xEvG_call xml xfetch (q := (none, m180)) rfl (hQ_next a0 M _ e_) ?_
              show xEv (117, 99, [some (13, a0), some (0, (fQ_is a0 63030 M)), some (0, (fQ_is a0 279109036 M)), some (0, (fQ_is a0 385495 M)), none, none], [], m180) _
              refine xEvG_n xml xfetch 2 (y := (117, if (fQ_is a0 63030 M) = 0 then 110 else 103, [some (13, a0), some (0, (fQ_is a0 63030 M)), some (0, (fQ_is a0 279109036 M)), some (0, (fQ_is a0 385495 M)), none, none], [], m180)) rfl trivial ?_
              refine xEvG_br xml xfetch (fun c_ => ?_) (fun c_ => ?_)
              · have h := xif_t c_ h
                refine xEvG_n xml xfetch 2 (y := (117, if (fQ_is a0 279109036 M) = 0 then 121 else 114, [some (13, a0), some (0, (fQ_is a0 63030 M)), some (0, (fQ_is a0 279109036 M)), some (0, (fQ_is a0 385495 M)), none, none], [], m180)) rfl trivial ?_
                refine xEvG_br xml xfetch (fun c_ => ?_) (fun c_ => ?_)
                · have h := xif_t c_ h
                  refine xEvG_n xml xfetch 1 (y := (117, 122, [some (13, a0), some (0, (fQ_is a0 63030 M)), some (0, (fQ_is a0 279109036 M)), some (0, (fQ_is a0 385495 M)), none, none], [(13, a0)], m180)) rfl trivial ?_
                  obtain ⟨m181, e_, h⟩ := xB_t h
                  refine xEvG_call xml xfetch (q := (none, m181)) rfl (hQ_soupLine a0 m180 _ e_) ?_
                  show xEv (117, 125, [some (13, a0), some (0, (fQ_is a0 63030 M)), some (0, (fQ_is a0 279109036 M)), some (0, (fQ_is a0 385495 M)), none, none], [], m181) _
                  refine xEvG_n xml xfetch 1 (y := (117, 191, [some (13, a0), some (0, (fQ_is a0 63030 M)), some (0, (fQ_is a0 279109036 M)), some (0, (fQ_is a0 385495 M)), none, none], [], m181)) rfl trivial ?_
                  cases h
                  exact xEvG_ret xml xfetch rfl
                · have h := xif_f c_ h
                  refine xEvG_n xml xfetch 1 (y := (117, 115, [some (13, a0), some (0, (fQ_is a0 63030 M)), some (0, (fQ_is a0 279109036 M)), some (0, (fQ_is a0 385495 M)), none, none], [(13, a0)], m180)) rfl trivial ?_
                  obtain ⟨m182, e_, h⟩ := xB_t h
                  refine xEvG_call xml xfetch (q := (none, m182)) rfl (hQ_sleepLine a0 m180 _ e_) ?_
                  show xEv (117, 118, [some (13, a0), some (0, (fQ_is a0 63030 M)), some (0, (fQ_is a0 279109036 M)), some (0, (fQ_is a0 385495 M)), none, none], [], m182) _
                  refine xEvG_n xml xfetch 1 (y := (117, 191, [some (13, a0), some (0, (fQ_is a0 63030 M)), some (0, (fQ_is a0 279109036 M)), some (0, (fQ_is a0 385495 M)), none, none], [], m182)) rfl trivial ?_
                  cases h
                  exact xEvG_ret xml xfetch rfl
              · have h := xif_f c_ h
                refine xEvG_n xml xfetch 1 (y := (117, 104, [some (13, a0), some (0, (fQ_is a0 63030 M)), some (0, (fQ_is a0 279109036 M)), some (0, (fQ_is a0 385495 M)), none, none], [(13, a0)], m180)) rfl trivial ?_
                obtain ⟨m183, e_, h⟩ := xB_t h
                refine xEvG_call xml xfetch (q := (none, m183)) rfl (hQ_manLine a0 m180 _ e_) ?_
                show xEv (117, 107, [some (13, a0), some (0, (fQ_is a0 63030 M)), some (0, (fQ_is a0 279109036 M)), some (0, (fQ_is a0 385495 M)), none, none], [], m183) _
                refine xEvG_n xml xfetch 1 (y := (117, 191, [some (13, a0), some (0, (fQ_is a0 63030 M)), some (0, (fQ_is a0 279109036 M)), some (0, (fQ_is a0 385495 M)), none, none], [], m183)) rfl trivial ?_
                cases h
                exact xEvG_ret xml xfetch rfl
          · have h := xif_f c_ h
            cases h
            exact xEvG_ret xml xfetch rfl
        · have h := xif_f c_ h
          refine xEvG_n xml xfetch 2 (y := (117, 62, [some (13, a0), some (0, (fQ_is a0 63030 M)), some (0, (fQ_is a0 279109036 M)), some (0, (fQ_is a0 385495 M)), none, none], [(0, 6), (13, a0)], M)) rfl trivial ?_
          obtain ⟨v184, e_, h⟩ := xB_t h
          refine xEvG_call xml xfetch (q := (some (0, v184), M)) rfl (hQ_hasRead a0 6 M _ e_) ?_
          show xEv (117, 65, [some (13, a0), some (0, (fQ_is a0 63030 M)), some (0, (fQ_is a0 279109036 M)), some (0, (fQ_is a0 385495 M)), none, none], [(0, v184)], M) _
          refine xEvG_n xml xfetch 2 (y := (117, if v184 = 8 then 70 else 75, [some (13, a0), some (0, (fQ_is a0 63030 M)), some (0, (fQ_is a0 279109036 M)), some (0, (fQ_is a0 385495 M)), none, none], [], M)) rfl trivial ?_
          refine xEvG_br xml xfetch (fun c_ => ?_) (fun c_ => ?_)
          · have h := xif_t c_ h
            refine xEvG_n xml xfetch 2 (y := (117, 72, [some (13, a0), some (0, (fQ_is a0 63030 M)), some (0, (fQ_is a0 279109036 M)), some (0, (fQ_is a0 385495 M)), none, none], [(0, 3), (13, a0)], M)) rfl trivial ?_
            refine xEvG_call xml xfetch (q := (none, fQ_fails a0 3 M)) rfl (hQ_fails a0 3 M _ rfl) ?_
            show xEv (117, 75, [some (13, a0), some (0, (fQ_is a0 63030 M)), some (0, (fQ_is a0 279109036 M)), some (0, (fQ_is a0 385495 M)), none, none], [], (fQ_fails a0 3 M)) _
            refine xEvG_n xml xfetch 3 (y := (117, if ((fQ_fails a0 3 M) a0 12) = 0 then 83 else 82, [some (13, a0), some (0, (fQ_is a0 63030 M)), some (0, (fQ_is a0 279109036 M)), some (0, (fQ_is a0 385495 M)), none, none], [], (fQ_fails a0 3 M))) rfl trivial ?_
            refine xEvG_br xml xfetch (fun c_ => ?_) (fun c_ => ?_)
            · have h := xif_t c_ h
              refine xEvG_n xml xfetch 2 (y := (117, if (fQ_is a0 63030 M) = 0 then 87 else 95, [some (13, a0), some (0, (fQ_is a0 63030 M)), some (0, (fQ_is a0 279109036 M)), some (0, (fQ_is a0 385495 M)), none, none], [], (fQ_fails a0 3 M))) rfl trivial ?_
              refine xEvG_br xml xfetch (fun c_ => ?_) (fun c_ => ?_)
              · have h := xif_t c_ h
                refine xEvG_n xml xfetch 2 (y := (117, if (fQ_is a0 279109036 M) = 0 then 91 else 95, [some (13, a0), some (0, (fQ_is a0 63030 M)), some (0, (fQ_is a0 279109036 M)), some (0, (fQ_is a0 385495 M)), none, none], [], (fQ_fails a0 3 M))) rfl trivial ?_
                refine xEvG_br xml xfetch (fun c_ => ?_) (fun c_ => ?_)
                · have h := xif_t c_ h
                  refine xEvG_n xml xfetch 2 (y := (117, if (fQ_is a0 385495 M) = 0 then 128 else 95, [some (13, a0), some (0, (fQ_is a0 63030 M)), some (0, (fQ_is a0 279109036 M)), some (0, (fQ_is a0 385495 M)), none, none], [], (fQ_fails a0 3 M))) rfl trivial ?_
                  refine xEvG_br xml xfetch (fun c_ => ?_) (fun c_ => ?_)
                  · have h := xif_t c_ h
                    refine xEvG_n xml xfetch 2 (y := (117, 132, [some (13, a0), some (0, (fQ_is a0 63030 M)), some (0, (fQ_is a0 279109036 M)), some (0, (fQ_is a0 385495 M)), none, none], [(1, 6888374364), (13, a0)], (fQ_fails a0 3 M))) rfl trivial ?_
                    obtain ⟨⟨v186, m186⟩, e_, h⟩ := xB_t h
                    refine xEvG_call xml xfetch (q := (some (0, v186), m186)) rfl (hQ_takes a0 6888374364 (fQ_fails a0 3 M) _ e_) ?_
                    show xEv (117, 135, [some (13, a0), some (0, (fQ_is a0 63030 M)), some (0, (fQ_is a0 279109036 M)), some (0, (fQ_is a0 385495 M)), none, none], [(0, v186)], m186) _
                    refine xEvG_n xml xfetch 1 (y := (117, if v186 = 0 then 145 else 138, [some (13, a0), some (0, (fQ_is a0 63030 M)), some (0, (fQ_is a0 279109036 M)), some (0, (fQ_is a0 385495 M)), none, none], [], m186)) rfl trivial ?_
                    refine xEvG_br xml xfetch (fun c_ => ?_) (fun c_ => ?_)
                    · have h := xif_t c_ h
                      refine xEvG_n xml xfetch 2 (y := (117, 149, [some (13, a0), some (0, (fQ_is a0 63030 M)), some (0, (fQ_is a0 279109036 M)), some (0, (fQ_is a0 385495 M)), none, none], [(1, 323717), (13, a0)], m186)) rfl trivial ?_
                      obtain ⟨m187, e_, h⟩ := xB_t h
                      refine xEvG_call xml xfetch (q := (none, m187)) rfl (hQ_asks a0 323717 m186 _ e_) ?_
                      show xEv (117, 152, [some (13, a0), some (0, (fQ_is a0 63030 M)), some (0, (fQ_is a0 279109036 M)), some (0, (fQ_is a0 385495 M)), none, none], [], m187) _
                      refine xEvG_n xml xfetch 4 (y := (117, 156, [some (13, a0), some (0, (fQ_is a0 63030 M)), some (0, (fQ_is a0 279109036 M)), some (0, (fQ_is a0 385495 M)), none, none], [(0, 1), (13, a0), (0, 0), (13, a0)], m187)) rfl trivial ?_
                      obtain ⟨v188, e_, h⟩ := xB_t h
                      refine xEvG_call xml xfetch (q := (some (0, v188), m187)) rfl (hQ_hasRead a0 1 m187 _ e_) ?_
                      show xEv (117, 159, [some (13, a0), some (0, (fQ_is a0 63030 M)), some (0, (fQ_is a0 279109036 M)), some (0, (fQ_is a0 385495 M)), none, none], [(0, v188), (0, 0), (13, a0)], m187) _
                      refine xEvG_n xml xfetch 2 (y := (117, 161, [some (13, a0), some (0, (fQ_is a0 63030 M)), some (0, (fQ_is a0 279109036 M)), some (0, (fQ_is a0 385495 M)), none, none], [(0, (xw32 (v188 - 1))), (0, 0), (13, a0)], m187)) rfl trivial ?_
                      obtain ⟨⟨v189, m189⟩, e_, h⟩ := xB_t h
                      refine xEvG_call xml xfetch (q := (some (0, v189), m189)) rfl (hQ_number2 a0 0 (xw32 (v188 - 1)) m187 _ e_) ?_
                      show xEv (117, 164, [some (13, a0), some (0, (fQ_is a0 63030 M)), some (0, (fQ_is a0 279109036 M)), some (0, (fQ_is a0 385495 M)), none, none], [(0, v189)], m189) _
                      refine xEvG_n xml xfetch 2 (y := (117, 167, [some (13, a0), some (0, (fQ_is a0 63030 M)), some (0, (fQ_is a0 279109036 M)), some (0, (fQ_is a0 385495 M)), some (0, v189), none], [(13, a0)], m189)) rfl trivial ?_
                      obtain ⟨⟨v190, m190⟩, e_, h⟩ := xB_t h
                      refine xEvG_call xml xfetch (q := (some (0, v190), m190)) rfl (hQ_cellHere a0 m189 _ e_) ?_
                      show xEv (117, 170, [some (13, a0), some (0, (fQ_is a0 63030 M)), some (0, (fQ_is a0 279109036 M)), some (0, (fQ_is a0 385495 M)), some (0, v189), none], [(0, v190)], m190) _
                      refine xEvG_n xml xfetch 2 (y := (117, 173, [some (13, a0), some (0, (fQ_is a0 63030 M)), some (0, (fQ_is a0 279109036 M)), some (0, (fQ_is a0 385495 M)), some (0, v189), some (0, v190)], [(13, a0)], m190)) rfl trivial ?_
                      refine xEvG_call xml xfetch (q := (some (0, fQ_isGood a0 m190), m190)) rfl (hQ_isGood a0 m190 _ rfl) ?_
                      show xEv (117, 176, [some (13, a0), some (0, (fQ_is a0 63030 M)), some (0, (fQ_is a0 279109036 M)), some (0, (fQ_is a0 385495 M)), some (0, v189), some (0, v190)], [(0, (fQ_isGood a0 m190))], m190) _
                      refine xEvG_n xml xfetch 1 (y := (117, if (fQ_isGood a0 m190) = 0 then 191 else 179, [some (13, a0), some (0, (fQ_is a0 63030 M)), some (0, (fQ_is a0 279109036 M)), some (0, (fQ_is a0 385495 M)), some (0, v189), some (0, v190)], [], m190)) rfl trivial ?_
                      refine xEvG_br xml xfetch (fun c_ => ?_) (fun c_ => ?_)
                      · have h := xif_t c_ h
                        cases h
                        exact xEvG_ret xml xfetch rfl
                      · have h := xif_f c_ h
                        have a0_ := (xA_t h).1
                        have h := (xA_t h).2
                        refine xEvG_n xml xfetch 7 (y := (117, 191, [some (13, a0), some (0, (fQ_is a0 63030 M)), some (0, (fQ_is a0 279109036 M)), some (0, (fQ_is a0 385495 M)), some (0, v189), some (0, v190)], [], (xwr m190 (a0 + 11) (xw32 (96 + v189)) v190))) rfl ⟨a0_, trivial⟩ ?_
                        cases h
                        exact xEvG_ret xml xfetch rfl
                    · have h := xif_f c_ h
                      refine xEvG_n xml xfetch 1 (y := (117, 139, [some (13, a0), some (0, (fQ_is a0 63030 M)), some (0, (fQ_is a0 279109036 M)), some (0, (fQ_is a0 385495 M)), none, none], [(13, a0)], m186)) rfl trivial ?_
                      obtain ⟨m192, e_, h⟩ := xB_t h
                      refine xEvG_call xml xfetch (q := (none, m192)) rfl (hQ_quarrelLine a0 m186 _ e_) ?_
                      show xEv (117, 142, [some (13, a0), some (0, (fQ_is a0 63030 M)), some (0, (fQ_is a0 279109036 M)), some (0, (fQ_is a0 385495 M)), none, none], [], m192) _
                      refine xEvG_n xml xfetch 1 (y := (117, 191, [some (13, a0), some (0, (fQ_is a0 63030 M)), some (0, (fQ_is a0 279109036 M)), some (0, (fQ_is a0 385495 M)), none, none], [], m192)) rfl trivial ?_
                      cases h
                      exact xEvG_ret xml xfetch rfl
                  · have h := xif_f c_ h
                    refine xEvG_n xml xfetch 1 (y := (117, 96, [some (13, a0), some (0, (fQ_is a0 63030 M)), some (0, (fQ_is a0 279109036 M)), some (0, (fQ_is a0 385495 M)), none, none], [(13, a0)], (fQ_fails a0 3 M))) rfl trivial ?_
                    obtain ⟨m193, e_, h⟩ := xB_t h
                    refine xEvG_call xml xfetch (q := (none, m193)) rfl (hQ_next a0 (fQ_fails a0 3 M) _ e_) ?_
                    show xEv (117, 99, [some (13, a0), some (0, (fQ_is a0 63030 M)), some (0, (fQ_is a0 279109036 M)), some (0, (fQ_is a0 385495 M)), none, none], [], m193) _
                    refine xEvG_n xml xfetch 2 (y := (117, if (fQ_is a0 63030 M) = 0 then 110 else 103, [some (13, a0), some (0, (fQ_is a0 63030 M)), some (0, (fQ_is a0 279109036 M)), some (0, (fQ_is a0 385495 M)), none, none], [], m193)) rfl trivial ?_
                    refine xEvG_br xml xfetch (fun c_ => ?_) (fun c_ => ?_)
                    · have h := xif_t c_ h
                      refine xEvG_n xml xfetch 2 (y := (117, if (fQ_is a0 279109036 M) = 0 then 121 else 114, [some (13, a0), some (0, (fQ_is a0 63030 M)), some (0, (fQ_is a0 279109036 M)), some (0, (fQ_is a0 385495 M)), none, none], [], m193)) rfl trivial ?_
                      refine xEvG_br xml xfetch (fun c_ => ?_) (fun c_ => ?_)
                      · have h := xif_t c_ h
                        refine xEvG_n xml xfetch 1 (y := (117, 122, [some (13, a0), some (0, (fQ_is a0 63030 M)), some (0, (fQ_is a0 279109036 M)), some (0, (fQ_is a0 385495 M)), none, none], [(13, a0)], m193)) rfl trivial ?_
                        obtain ⟨m194, e_, h⟩ := xB_t h
                        refine xEvG_call xml xfetch (q := (none, m194)) rfl (hQ_soupLine a0 m193 _ e_) ?_
                        show xEv (117, 125, [some (13, a0), some (0, (fQ_is a0 63030 M)), some (0, (fQ_is a0 279109036 M)), some (0, (fQ_is a0 385495 M)), none, none], [], m194) _
                        refine xEvG_n xml xfetch 1 (y := (117, 191, [some (13, a0), some (0, (fQ_is a0 63030 M)), some (0, (fQ_is a0 279109036 M)), some (0, (fQ_is a0 385495 M)), none, none], [], m194)) rfl trivial ?_
                        cases h
                        exact xEvG_ret xml xfetch rfl
                      · have h := xif_f c_ h
                        refine xEvG_n xml xfetch 1 (y := (117, 115, [some (13, a0), some (0, (fQ_is a0 63030 M)), some (0, (fQ_is a0 279109036 M)), some (0, (fQ_is a0 385495 M)), none, none], [(13, a0)], m193)) rfl trivial ?_
                        obtain ⟨m195, e_, h⟩ := xB_t h
                        refine xEvG_call xml xfetch (q := (none, m195)) rfl (hQ_sleepLine a0 m193 _ e_) ?_
                        show xEv (117, 118, [some (13, a0), some (0, (fQ_is a0 63030 M)), some (0, (fQ_is a0 279109036 M)), some (0, (fQ_is a0 385495 M)), none, none], [], m195) _
                        refine xEvG_n xml xfetch 1 (y := (117, 191, [some (13, a0), some (0, (fQ_is a0 63030 M)), some (0, (fQ_is a0 279109036 M)), some (0, (fQ_is a0 385495 M)), none, none], [], m195)) rfl trivial ?_
                        cases h
                        exact xEvG_ret xml xfetch rfl
                    · have h := xif_f c_ h
                      refine xEvG_n xml xfetch 1 (y := (117, 104, [some (13, a0), some (0, (fQ_is a0 63030 M)), some (0, (fQ_is a0 279109036 M)), some (0, (fQ_is a0 385495 M)), none, none], [(13, a0)], m193)) rfl trivial ?_
                      obtain ⟨m196, e_, h⟩ := xB_t h
                      refine xEvG_call xml xfetch (q := (none, m196)) rfl (hQ_manLine a0 m193 _ e_) ?_
                      show xEv (117, 107, [some (13, a0), some (0, (fQ_is a0 63030 M)), some (0, (fQ_is a0 279109036 M)), some (0, (fQ_is a0 385495 M)), none, none], [], m196) _
                      refine xEvG_n xml xfetch 1 (y := (117, 191, [some (13, a0), some (0, (fQ_is a0 63030 M)), some (0, (fQ_is a0 279109036 M)), some (0, (fQ_is a0 385495 M)), none, none], [], m196)) rfl trivial ?_
                      cases h
                      exact xEvG_ret xml xfetch rfl
                · have h := xif_f c_ h
                  refine xEvG_n xml xfetch 1 (y := (117, 96, [some (13, a0), some (0, (fQ_is a0 63030 M)), some (0, (fQ_is a0 279109036 M)), some (0, (fQ_is a0 385495 M)), none, none], [(13, a0)], (fQ_fails a0 3 M))) rfl trivial ?_
                  obtain ⟨m197, e_, h⟩ := xB_t h
                  refine xEvG_call xml xfetch (q := (none, m197)) rfl (hQ_next a0 (fQ_fails a0 3 M) _ e_) ?_
                  show xEv (117, 99, [some (13, a0), some (0, (fQ_is a0 63030 M)), some (0, (fQ_is a0 279109036 M)), some (0, (fQ_is a0 385495 M)), none, none], [], m197) _
                  refine xEvG_n xml xfetch 2 (y := (117, if (fQ_is a0 63030 M) = 0 then 110 else 103, [some (13, a0), some (0, (fQ_is a0 63030 M)), some (0, (fQ_is a0 279109036 M)), some (0, (fQ_is a0 385495 M)), none, none], [], m197)) rfl trivial ?_
                  refine xEvG_br xml xfetch (fun c_ => ?_) (fun c_ => ?_)
                  · have h := xif_t c_ h
                    refine xEvG_n xml xfetch 2 (y := (117, if (fQ_is a0 279109036 M) = 0 then 121 else 114, [some (13, a0), some (0, (fQ_is a0 63030 M)), some (0, (fQ_is a0 279109036 M)), some (0, (fQ_is a0 385495 M)), none, none], [], m197)) rfl trivial ?_
                    refine xEvG_br xml xfetch (fun c_ => ?_) (fun c_ => ?_)
                    · have h := xif_t c_ h
                      refine xEvG_n xml xfetch 1 (y := (117, 122, [some (13, a0), some (0, (fQ_is a0 63030 M)), some (0, (fQ_is a0 279109036 M)), some (0, (fQ_is a0 385495 M)), none, none], [(13, a0)], m197)) rfl trivial ?_
                      obtain ⟨m198, e_, h⟩ := xB_t h
                      refine xEvG_call xml xfetch (q := (none, m198)) rfl (hQ_soupLine a0 m197 _ e_) ?_
                      show xEv (117, 125, [some (13, a0), some (0, (fQ_is a0 63030 M)), some (0, (fQ_is a0 279109036 M)), some (0, (fQ_is a0 385495 M)), none, none], [], m198) _
                      refine xEvG_n xml xfetch 1 (y := (117, 191, [some (13, a0), some (0, (fQ_is a0 63030 M)), some (0, (fQ_is a0 279109036 M)), some (0, (fQ_is a0 385495 M)), none, none], [], m198)) rfl trivial ?_
                      cases h
                      exact xEvG_ret xml xfetch rfl
                    · have h := xif_f c_ h
                      refine xEvG_n xml xfetch 1 (y := (117, 115, [some (13, a0), some (0, (fQ_is a0 63030 M)), some (0, (fQ_is a0 279109036 M)), some (0, (fQ_is a0 385495 M)), none, none], [(13, a0)], m197)) rfl trivial ?_
                      obtain ⟨m199, e_, h⟩ := xB_t h
                      refine xEvG_call xml xfetch (q := (none, m199)) rfl (hQ_sleepLine a0 m197 _ e_) ?_
                      show xEv (117, 118, [some (13, a0), some (0, (fQ_is a0 63030 M)), some (0, (fQ_is a0 279109036 M)), some (0, (fQ_is a0 385495 M)), none, none], [], m199) _
                      refine xEvG_n xml xfetch 1 (y := (117, 191, [some (13, a0), some (0, (fQ_is a0 63030 M)), some (0, (fQ_is a0 279109036 M)), some (0, (fQ_is a0 385495 M)), none, none], [], m199)) rfl trivial ?_
                      cases h
                      exact xEvG_ret xml xfetch rfl
                  · have h := xif_f c_ h
                    refine xEvG_n xml xfetch 1 (y := (117, 104, [some (13, a0), some (0, (fQ_is a0 63030 M)), some (0, (fQ_is a0 279109036 M)), some (0, (fQ_is a0 385495 M)), none, none], [(13, a0)], m197)) rfl trivial ?_
                    obtain ⟨m200, e_, h⟩ := xB_t h
                    refine xEvG_call xml xfetch (q := (none, m200)) rfl (hQ_manLine a0 m197 _ e_) ?_
                    show xEv (117, 107, [some (13, a0), some (0, (fQ_is a0 63030 M)), some (0, (fQ_is a0 279109036 M)), some (0, (fQ_is a0 385495 M)), none, none], [], m200) _
                    refine xEvG_n xml xfetch 1 (y := (117, 191, [some (13, a0), some (0, (fQ_is a0 63030 M)), some (0, (fQ_is a0 279109036 M)), some (0, (fQ_is a0 385495 M)), none, none], [], m200)) rfl trivial ?_
                    cases h
                    exact xEvG_ret xml xfetch rfl
              · have h := xif_f c_ h
                refine xEvG_n xml xfetch 1 (y := (117, 96, [some (13, a0), some (0, (fQ_is a0 63030 M)), some (0, (fQ_is a0 279109036 M)), some (0, (fQ_is a0 385495 M)), none, none], [(13, a0)], (fQ_fails a0 3 M))) rfl trivial ?_
                obtain ⟨m201, e_, h⟩ := xB_t h
                refine xEvG_call xml xfetch (q := (none, m201)) rfl (hQ_next a0 (fQ_fails a0 3 M) _ e_) ?_
                show xEv (117, 99, [some (13, a0), some (0, (fQ_is a0 63030 M)), some (0, (fQ_is a0 279109036 M)), some (0, (fQ_is a0 385495 M)), none, none], [], m201) _
                refine xEvG_n xml xfetch 2 (y := (117, if (fQ_is a0 63030 M) = 0 then 110 else 103, [some (13, a0), some (0, (fQ_is a0 63030 M)), some (0, (fQ_is a0 279109036 M)), some (0, (fQ_is a0 385495 M)), none, none], [], m201)) rfl trivial ?_
                refine xEvG_br xml xfetch (fun c_ => ?_) (fun c_ => ?_)
                · have h := xif_t c_ h
                  refine xEvG_n xml xfetch 2 (y := (117, if (fQ_is a0 279109036 M) = 0 then 121 else 114, [some (13, a0), some (0, (fQ_is a0 63030 M)), some (0, (fQ_is a0 279109036 M)), some (0, (fQ_is a0 385495 M)), none, none], [], m201)) rfl trivial ?_
                  refine xEvG_br xml xfetch (fun c_ => ?_) (fun c_ => ?_)
                  · have h := xif_t c_ h
                    refine xEvG_n xml xfetch 1 (y := (117, 122, [some (13, a0), some (0, (fQ_is a0 63030 M)), some (0, (fQ_is a0 279109036 M)), some (0, (fQ_is a0 385495 M)), none, none], [(13, a0)], m201)) rfl trivial ?_
                    obtain ⟨m202, e_, h⟩ := xB_t h
                    refine xEvG_call xml xfetch (q := (none, m202)) rfl (hQ_soupLine a0 m201 _ e_) ?_
                    show xEv (117, 125, [some (13, a0), some (0, (fQ_is a0 63030 M)), some (0, (fQ_is a0 279109036 M)), some (0, (fQ_is a0 385495 M)), none, none], [], m202) _
                    refine xEvG_n xml xfetch 1 (y := (117, 191, [some (13, a0), some (0, (fQ_is a0 63030 M)), some (0, (fQ_is a0 279109036 M)), some (0, (fQ_is a0 385495 M)), none, none], [], m202)) rfl trivial ?_
                    cases h
                    exact xEvG_ret xml xfetch rfl
                  · have h := xif_f c_ h
                    refine xEvG_n xml xfetch 1 (y := (117, 115, [some (13, a0), some (0, (fQ_is a0 63030 M)), some (0, (fQ_is a0 279109036 M)), some (0, (fQ_is a0 385495 M)), none, none], [(13, a0)], m201)) rfl trivial ?_
                    obtain ⟨m203, e_, h⟩ := xB_t h
                    refine xEvG_call xml xfetch (q := (none, m203)) rfl (hQ_sleepLine a0 m201 _ e_) ?_
                    show xEv (117, 118, [some (13, a0), some (0, (fQ_is a0 63030 M)), some (0, (fQ_is a0 279109036 M)), some (0, (fQ_is a0 385495 M)), none, none], [], m203) _
                    refine xEvG_n xml xfetch 1 (y := (117, 191, [some (13, a0), some (0, (fQ_is a0 63030 M)), some (0, (fQ_is a0 279109036 M)), some (0, (fQ_is a0 385495 M)), none, none], [], m203)) rfl trivial ?_
                    cases h
                    exact xEvG_ret xml xfetch rfl
                · have h := xif_f c_ h
                  refine xEvG_n xml xfetch 1 (y := (117, 104, [some (13, a0), some (0, (fQ_is a0 63030 M)), some (0, (fQ_is a0 279109036 M)), some (0, (fQ_is a0 385495 M)), none, none], [(13, a0)], m201)) rfl trivial ?_
                  obtain ⟨m204, e_, h⟩ := xB_t h
                  refine xEvG_call xml xfetch (q := (none, m204)) rfl (hQ_manLine a0 m201 _ e_) ?_
                  show xEv (117, 107, [some (13, a0), some (0, (fQ_is a0 63030 M)), some (0, (fQ_is a0 279109036 M)), some (0, (fQ_is a0 385495 M)), none, none], [], m204) _
                  refine xEvG_n xml xfetch 1 (y := (117, 191, [some (13, a0), some (0, (fQ_is a0 63030 M)), some (0, (fQ_is a0 279109036 M)), some (0, (fQ_is a0 385495 M)), none, none], [], m204)) rfl trivial ?_
                  cases h
                  exact xEvG_ret xml xfetch rfl
            · have h := xif_f c_ h
              cases h
              exact xEvG_ret xml xfetch rfl
          · have h := xif_f c_ h
            refine xEvG_n xml xfetch 3 (y := (117, if (M a0 12) = 0 then 83 else 82, [some (13, a0), some (0, (fQ_is a0 63030 M)), some (0, (fQ_is a0 279109036 M)), some (0, (fQ_is a0 385495 M)), none, none], [], M)) rfl trivial ?_
            refine xEvG_br xml xfetch (fun c_ => ?_) (fun c_ => ?_)
            · have h := xif_t c_ h
              refine xEvG_n xml xfetch 2 (y := (117, if (fQ_is a0 63030 M) = 0 then 87 else 95, [some (13, a0), some (0, (fQ_is a0 63030 M)), some (0, (fQ_is a0 279109036 M)), some (0, (fQ_is a0 385495 M)), none, none], [], M)) rfl trivial ?_
              refine xEvG_br xml xfetch (fun c_ => ?_) (fun c_ => ?_)
              · have h := xif_t c_ h
                refine xEvG_n xml xfetch 2 (y := (117, if (fQ_is a0 279109036 M) = 0 then 91 else 95, [some (13, a0), some (0, (fQ_is a0 63030 M)), some (0, (fQ_is a0 279109036 M)), some (0, (fQ_is a0 385495 M)), none, none], [], M)) rfl trivial ?_
                refine xEvG_br xml xfetch (fun c_ => ?_) (fun c_ => ?_)
                · have h := xif_t c_ h
                  refine xEvG_n xml xfetch 2 (y := (117, if (fQ_is a0 385495 M) = 0 then 128 else 95, [some (13, a0), some (0, (fQ_is a0 63030 M)), some (0, (fQ_is a0 279109036 M)), some (0, (fQ_is a0 385495 M)), none, none], [], M)) rfl trivial ?_
                  refine xEvG_br xml xfetch (fun c_ => ?_) (fun c_ => ?_)
                  · have h := xif_t c_ h
                    refine xEvG_n xml xfetch 2 (y := (117, 132, [some (13, a0), some (0, (fQ_is a0 63030 M)), some (0, (fQ_is a0 279109036 M)), some (0, (fQ_is a0 385495 M)), none, none], [(1, 6888374364), (13, a0)], M)) rfl trivial ?_
                    obtain ⟨⟨v205, m205⟩, e_, h⟩ := xB_t h
                    refine xEvG_call xml xfetch (q := (some (0, v205), m205)) rfl (hQ_takes a0 6888374364 M _ e_) ?_
                    show xEv (117, 135, [some (13, a0), some (0, (fQ_is a0 63030 M)), some (0, (fQ_is a0 279109036 M)), some (0, (fQ_is a0 385495 M)), none, none], [(0, v205)], m205) _
                    refine xEvG_n xml xfetch 1 (y := (117, if v205 = 0 then 145 else 138, [some (13, a0), some (0, (fQ_is a0 63030 M)), some (0, (fQ_is a0 279109036 M)), some (0, (fQ_is a0 385495 M)), none, none], [], m205)) rfl trivial ?_
                    refine xEvG_br xml xfetch (fun c_ => ?_) (fun c_ => ?_)
                    · have h := xif_t c_ h
                      refine xEvG_n xml xfetch 2 (y := (117, 149, [some (13, a0), some (0, (fQ_is a0 63030 M)), some (0, (fQ_is a0 279109036 M)), some (0, (fQ_is a0 385495 M)), none, none], [(1, 323717), (13, a0)], m205)) rfl trivial ?_
                      obtain ⟨m206, e_, h⟩ := xB_t h
                      refine xEvG_call xml xfetch (q := (none, m206)) rfl (hQ_asks a0 323717 m205 _ e_) ?_
                      show xEv (117, 152, [some (13, a0), some (0, (fQ_is a0 63030 M)), some (0, (fQ_is a0 279109036 M)), some (0, (fQ_is a0 385495 M)), none, none], [], m206) _
                      refine xEvG_n xml xfetch 4 (y := (117, 156, [some (13, a0), some (0, (fQ_is a0 63030 M)), some (0, (fQ_is a0 279109036 M)), some (0, (fQ_is a0 385495 M)), none, none], [(0, 1), (13, a0), (0, 0), (13, a0)], m206)) rfl trivial ?_
                      obtain ⟨v207, e_, h⟩ := xB_t h
                      refine xEvG_call xml xfetch (q := (some (0, v207), m206)) rfl (hQ_hasRead a0 1 m206 _ e_) ?_
                      show xEv (117, 159, [some (13, a0), some (0, (fQ_is a0 63030 M)), some (0, (fQ_is a0 279109036 M)), some (0, (fQ_is a0 385495 M)), none, none], [(0, v207), (0, 0), (13, a0)], m206) _
                      refine xEvG_n xml xfetch 2 (y := (117, 161, [some (13, a0), some (0, (fQ_is a0 63030 M)), some (0, (fQ_is a0 279109036 M)), some (0, (fQ_is a0 385495 M)), none, none], [(0, (xw32 (v207 - 1))), (0, 0), (13, a0)], m206)) rfl trivial ?_
                      obtain ⟨⟨v208, m208⟩, e_, h⟩ := xB_t h
                      refine xEvG_call xml xfetch (q := (some (0, v208), m208)) rfl (hQ_number2 a0 0 (xw32 (v207 - 1)) m206 _ e_) ?_
                      show xEv (117, 164, [some (13, a0), some (0, (fQ_is a0 63030 M)), some (0, (fQ_is a0 279109036 M)), some (0, (fQ_is a0 385495 M)), none, none], [(0, v208)], m208) _
                      refine xEvG_n xml xfetch 2 (y := (117, 167, [some (13, a0), some (0, (fQ_is a0 63030 M)), some (0, (fQ_is a0 279109036 M)), some (0, (fQ_is a0 385495 M)), some (0, v208), none], [(13, a0)], m208)) rfl trivial ?_
                      obtain ⟨⟨v209, m209⟩, e_, h⟩ := xB_t h
                      refine xEvG_call xml xfetch (q := (some (0, v209), m209)) rfl (hQ_cellHere a0 m208 _ e_) ?_
                      show xEv (117, 170, [some (13, a0), some (0, (fQ_is a0 63030 M)), some (0, (fQ_is a0 279109036 M)), some (0, (fQ_is a0 385495 M)), some (0, v208), none], [(0, v209)], m209) _
                      refine xEvG_n xml xfetch 2 (y := (117, 173, [some (13, a0), some (0, (fQ_is a0 63030 M)), some (0, (fQ_is a0 279109036 M)), some (0, (fQ_is a0 385495 M)), some (0, v208), some (0, v209)], [(13, a0)], m209)) rfl trivial ?_
                      refine xEvG_call xml xfetch (q := (some (0, fQ_isGood a0 m209), m209)) rfl (hQ_isGood a0 m209 _ rfl) ?_
                      show xEv (117, 176, [some (13, a0), some (0, (fQ_is a0 63030 M)), some (0, (fQ_is a0 279109036 M)), some (0, (fQ_is a0 385495 M)), some (0, v208), some (0, v209)], [(0, (fQ_isGood a0 m209))], m209) _
                      refine xEvG_n xml xfetch 1 (y := (117, if (fQ_isGood a0 m209) = 0 then 191 else 179, [some (13, a0), some (0, (fQ_is a0 63030 M)), some (0, (fQ_is a0 279109036 M)), some (0, (fQ_is a0 385495 M)), some (0, v208), some (0, v209)], [], m209)) rfl trivial ?_
                      refine xEvG_br xml xfetch (fun c_ => ?_) (fun c_ => ?_)
                      · have h := xif_t c_ h
                        cases h
                        exact xEvG_ret xml xfetch rfl
                      · have h := xif_f c_ h
                        have a0_ := (xA_t h).1
                        have h := (xA_t h).2
                        refine xEvG_n xml xfetch 7 (y := (117, 191, [some (13, a0), some (0, (fQ_is a0 63030 M)), some (0, (fQ_is a0 279109036 M)), some (0, (fQ_is a0 385495 M)), some (0, v208), some (0, v209)], [], (xwr m209 (a0 + 11) (xw32 (96 + v208)) v209))) rfl ⟨a0_, trivial⟩ ?_
                        cases h
                        exact xEvG_ret xml xfetch rfl
                    · have h := xif_f c_ h
                      refine xEvG_n xml xfetch 1 (y := (117, 139, [some (13, a0), some (0, (fQ_is a0 63030 M)), some (0, (fQ_is a0 279109036 M)), some (0, (fQ_is a0 385495 M)), none, none], [(13, a0)], m205)) rfl trivial ?_
                      obtain ⟨m211, e_, h⟩ := xB_t h
                      refine xEvG_call xml xfetch (q := (none, m211)) rfl (hQ_quarrelLine a0 m205 _ e_) ?_
                      show xEv (117, 142, [some (13, a0), some (0, (fQ_is a0 63030 M)), some (0, (fQ_is a0 279109036 M)), some (0, (fQ_is a0 385495 M)), none, none], [], m211) _
                      refine xEvG_n xml xfetch 1 (y := (117, 191, [some (13, a0), some (0, (fQ_is a0 63030 M)), some (0, (fQ_is a0 279109036 M)), some (0, (fQ_is a0 385495 M)), none, none], [], m211)) rfl trivial ?_
                      cases h
                      exact xEvG_ret xml xfetch rfl
                  · have h := xif_f c_ h
                    refine xEvG_n xml xfetch 1 (y := (117, 96, [some (13, a0), some (0, (fQ_is a0 63030 M)), some (0, (fQ_is a0 279109036 M)), some (0, (fQ_is a0 385495 M)), none, none], [(13, a0)], M)) rfl trivial ?_
                    obtain ⟨m212, e_, h⟩ := xB_t h
                    refine xEvG_call xml xfetch (q := (none, m212)) rfl (hQ_next a0 M _ e_) ?_
                    show xEv (117, 99, [some (13, a0), some (0, (fQ_is a0 63030 M)), some (0, (fQ_is a0 279109036 M)), some (0, (fQ_is a0 385495 M)), none, none], [], m212) _
                    refine xEvG_n xml xfetch 2 (y := (117, if (fQ_is a0 63030 M) = 0 then 110 else 103, [some (13, a0), some (0, (fQ_is a0 63030 M)), some (0, (fQ_is a0 279109036 M)), some (0, (fQ_is a0 385495 M)), none, none], [], m212)) rfl trivial ?_
                    refine xEvG_br xml xfetch (fun c_ => ?_) (fun c_ => ?_)
                    · have h := xif_t c_ h
                      refine xEvG_n xml xfetch 2 (y := (117, if (fQ_is a0 279109036 M) = 0 then 121 else 114, [some (13, a0), some (0, (fQ_is a0 63030 M)), some (0, (fQ_is a0 279109036 M)), some (0, (fQ_is a0 385495 M)), none, none], [], m212)) rfl trivial ?_
                      refine xEvG_br xml xfetch (fun c_ => ?_) (fun c_ => ?_)
                      · have h := xif_t c_ h
                        refine xEvG_n xml xfetch 1 (y := (117, 122, [some (13, a0), some (0, (fQ_is a0 63030 M)), some (0, (fQ_is a0 279109036 M)), some (0, (fQ_is a0 385495 M)), none, none], [(13, a0)], m212)) rfl trivial ?_
                        obtain ⟨m213, e_, h⟩ := xB_t h
                        refine xEvG_call xml xfetch (q := (none, m213)) rfl (hQ_soupLine a0 m212 _ e_) ?_
                        show xEv (117, 125, [some (13, a0), some (0, (fQ_is a0 63030 M)), some (0, (fQ_is a0 279109036 M)), some (0, (fQ_is a0 385495 M)), none, none], [], m213) _
                        refine xEvG_n xml xfetch 1 (y := (117, 191, [some (13, a0), some (0, (fQ_is a0 63030 M)), some (0, (fQ_is a0 279109036 M)), some (0, (fQ_is a0 385495 M)), none, none], [], m213)) rfl trivial ?_
                        cases h
                        exact xEvG_ret xml xfetch rfl
                      · have h := xif_f c_ h
                        refine xEvG_n xml xfetch 1 (y := (117, 115, [some (13, a0), some (0, (fQ_is a0 63030 M)), some (0, (fQ_is a0 279109036 M)), some (0, (fQ_is a0 385495 M)), none, none], [(13, a0)], m212)) rfl trivial ?_
                        obtain ⟨m214, e_, h⟩ := xB_t h
                        refine xEvG_call xml xfetch (q := (none, m214)) rfl (hQ_sleepLine a0 m212 _ e_) ?_
                        show xEv (117, 118, [some (13, a0), some (0, (fQ_is a0 63030 M)), some (0, (fQ_is a0 279109036 M)), some (0, (fQ_is a0 385495 M)), none, none], [], m214) _
                        refine xEvG_n xml xfetch 1 (y := (117, 191, [some (13, a0), some (0, (fQ_is a0 63030 M)), some (0, (fQ_is a0 279109036 M)), some (0, (fQ_is a0 385495 M)), none, none], [], m214)) rfl trivial ?_
                        cases h
                        exact xEvG_ret xml xfetch rfl
                    · have h := xif_f c_ h
                      refine xEvG_n xml xfetch 1 (y := (117, 104, [some (13, a0), some (0, (fQ_is a0 63030 M)), some (0, (fQ_is a0 279109036 M)), some (0, (fQ_is a0 385495 M)), none, none], [(13, a0)], m212)) rfl trivial ?_
                      obtain ⟨m215, e_, h⟩ := xB_t h
                      refine xEvG_call xml xfetch (q := (none, m215)) rfl (hQ_manLine a0 m212 _ e_) ?_
                      show xEv (117, 107, [some (13, a0), some (0, (fQ_is a0 63030 M)), some (0, (fQ_is a0 279109036 M)), some (0, (fQ_is a0 385495 M)), none, none], [], m215) _
                      refine xEvG_n xml xfetch 1 (y := (117, 191, [some (13, a0), some (0, (fQ_is a0 63030 M)), some (0, (fQ_is a0 279109036 M)), some (0, (fQ_is a0 385495 M)), none, none], [], m215)) rfl trivial ?_
                      cases h
                      exact xEvG_ret xml xfetch rfl
                · have h := xif_f c_ h
                  refine xEvG_n xml xfetch 1 (y := (117, 96, [some (13, a0), some (0, (fQ_is a0 63030 M)), some (0, (fQ_is a0 279109036 M)), some (0, (fQ_is a0 385495 M)), none, none], [(13, a0)], M)) rfl trivial ?_
                  obtain ⟨m216, e_, h⟩ := xB_t h
                  refine xEvG_call xml xfetch (q := (none, m216)) rfl (hQ_next a0 M _ e_) ?_
                  show xEv (117, 99, [some (13, a0), some (0, (fQ_is a0 63030 M)), some (0, (fQ_is a0 279109036 M)), some (0, (fQ_is a0 385495 M)), none, none], [], m216) _
                  refine xEvG_n xml xfetch 2 (y := (117, if (fQ_is a0 63030 M) = 0 then 110 else 103, [some (13, a0), some (0, (fQ_is a0 63030 M)), some (0, (fQ_is a0 279109036 M)), some (0, (fQ_is a0 385495 M)), none, none], [], m216)) rfl trivial ?_
                  refine xEvG_br xml xfetch (fun c_ => ?_) (fun c_ => ?_)
                  · have h := xif_t c_ h
                    refine xEvG_n xml xfetch 2 (y := (117, if (fQ_is a0 279109036 M) = 0 then 121 else 114, [some (13, a0), some (0, (fQ_is a0 63030 M)), some (0, (fQ_is a0 279109036 M)), some (0, (fQ_is a0 385495 M)), none, none], [], m216)) rfl trivial ?_
                    refine xEvG_br xml xfetch (fun c_ => ?_) (fun c_ => ?_)
                    · have h := xif_t c_ h
                      refine xEvG_n xml xfetch 1 (y := (117, 122, [some (13, a0), some (0, (fQ_is a0 63030 M)), some (0, (fQ_is a0 279109036 M)), some (0, (fQ_is a0 385495 M)), none, none], [(13, a0)], m216)) rfl trivial ?_
                      obtain ⟨m217, e_, h⟩ := xB_t h
                      refine xEvG_call xml xfetch (q := (none, m217)) rfl (hQ_soupLine a0 m216 _ e_) ?_
                      show xEv (117, 125, [some (13, a0), some (0, (fQ_is a0 63030 M)), some (0, (fQ_is a0 279109036 M)), some (0, (fQ_is a0 385495 M)), none, none], [], m217) _
                      refine xEvG_n xml xfetch 1 (y := (117, 191, [some (13, a0), some (0, (fQ_is a0 63030 M)), some (0, (fQ_is a0 279109036 M)), some (0, (fQ_is a0 385495 M)), none, none], [], m217)) rfl trivial ?_
                      cases h
                      exact xEvG_ret xml xfetch rfl
                    · have h := xif_f c_ h
                      refine xEvG_n xml xfetch 1 (y := (117, 115, [some (13, a0), some (0, (fQ_is a0 63030 M)), some (0, (fQ_is a0 279109036 M)), some (0, (fQ_is a0 385495 M)), none, none], [(13, a0)], m216)) rfl trivial ?_
                      obtain ⟨m218, e_, h⟩ := xB_t h
                      refine xEvG_call xml xfetch (q := (none, m218)) rfl (hQ_sleepLine a0 m216 _ e_) ?_
                      show xEv (117, 118, [some (13, a0), some (0, (fQ_is a0 63030 M)), some (0, (fQ_is a0 279109036 M)), some (0, (fQ_is a0 385495 M)), none, none], [], m218) _
                      refine xEvG_n xml xfetch 1 (y := (117, 191, [some (13, a0), some (0, (fQ_is a0 63030 M)), some (0, (fQ_is a0 279109036 M)), some (0, (fQ_is a0 385495 M)), none, none], [], m218)) rfl trivial ?_
                      cases h
                      exact xEvG_ret xml xfetch rfl
                  · have h := xif_f c_ h
                    refine xEvG_n xml xfetch 1 (y := (117, 104, [some (13, a0), some (0, (fQ_is a0 63030 M)), some (0, (fQ_is a0 279109036 M)), some (0, (fQ_is a0 385495 M)), none, none], [(13, a0)], m216)) rfl trivial ?_
                    obtain ⟨m219, e_, h⟩ := xB_t h
                    refine xEvG_call xml xfetch (q := (none, m219)) rfl (hQ_manLine a0 m216 _ e_) ?_
                    show xEv (117, 107, [some (13, a0), some (0, (fQ_is a0 63030 M)), some (0, (fQ_is a0 279109036 M)), some (0, (fQ_is a0 385495 M)), none, none], [], m219) _
                    refine xEvG_n xml xfetch 1 (y := (117, 191, [some (13, a0), some (0, (fQ_is a0 63030 M)), some (0, (fQ_is a0 279109036 M)), some (0, (fQ_is a0 385495 M)), none, none], [], m219)) rfl trivial ?_
                    cases h
                    exact xEvG_ret xml xfetch rfl
              · have h := xif_f c_ h
                refine xEvG_n xml xfetch 1 (y := (117, 96, [some (13, a0), some (0, (fQ_is a0 63030 M)), some (0, (fQ_is a0 279109036 M)), some (0, (fQ_is a0 385495 M)), none, none], [(13, a0)], M)) rfl trivial ?_
                obtain ⟨m220, e_, h⟩ := xB_t h
                refine xEvG_call xml xfetch (q := (none, m220)) rfl (hQ_next a0 M _ e_) ?_
                show xEv (117, 99, [some (13, a0), some (0, (fQ_is a0 63030 M)), some (0, (fQ_is a0 279109036 M)), some (0, (fQ_is a0 385495 M)), none, none], [], m220) _
                refine xEvG_n xml xfetch 2 (y := (117, if (fQ_is a0 63030 M) = 0 then 110 else 103, [some (13, a0), some (0, (fQ_is a0 63030 M)), some (0, (fQ_is a0 279109036 M)), some (0, (fQ_is a0 385495 M)), none, none], [], m220)) rfl trivial ?_
                refine xEvG_br xml xfetch (fun c_ => ?_) (fun c_ => ?_)
                · have h := xif_t c_ h
                  refine xEvG_n xml xfetch 2 (y := (117, if (fQ_is a0 279109036 M) = 0 then 121 else 114, [some (13, a0), some (0, (fQ_is a0 63030 M)), some (0, (fQ_is a0 279109036 M)), some (0, (fQ_is a0 385495 M)), none, none], [], m220)) rfl trivial ?_
                  refine xEvG_br xml xfetch (fun c_ => ?_) (fun c_ => ?_)
                  · have h := xif_t c_ h
                    refine xEvG_n xml xfetch 1 (y := (117, 122, [some (13, a0), some (0, (fQ_is a0 63030 M)), some (0, (fQ_is a0 279109036 M)), some (0, (fQ_is a0 385495 M)), none, none], [(13, a0)], m220)) rfl trivial ?_
                    obtain ⟨m221, e_, h⟩ := xB_t h
                    refine xEvG_call xml xfetch (q := (none, m221)) rfl (hQ_soupLine a0 m220 _ e_) ?_
                    show xEv (117, 125, [some (13, a0), some (0, (fQ_is a0 63030 M)), some (0, (fQ_is a0 279109036 M)), some (0, (fQ_is a0 385495 M)), none, none], [], m221) _
                    refine xEvG_n xml xfetch 1 (y := (117, 191, [some (13, a0), some (0, (fQ_is a0 63030 M)), some (0, (fQ_is a0 279109036 M)), some (0, (fQ_is a0 385495 M)), none, none], [], m221)) rfl trivial ?_
                    cases h
                    exact xEvG_ret xml xfetch rfl
                  · have h := xif_f c_ h
                    refine xEvG_n xml xfetch 1 (y := (117, 115, [some (13, a0), some (0, (fQ_is a0 63030 M)), some (0, (fQ_is a0 279109036 M)), some (0, (fQ_is a0 385495 M)), none, none], [(13, a0)], m220)) rfl trivial ?_
                    obtain ⟨m222, e_, h⟩ := xB_t h
                    refine xEvG_call xml xfetch (q := (none, m222)) rfl (hQ_sleepLine a0 m220 _ e_) ?_
                    show xEv (117, 118, [some (13, a0), some (0, (fQ_is a0 63030 M)), some (0, (fQ_is a0 279109036 M)), some (0, (fQ_is a0 385495 M)), none, none], [], m222) _
                    refine xEvG_n xml xfetch 1 (y := (117, 191, [some (13, a0), some (0, (fQ_is a0 63030 M)), some (0, (fQ_is a0 279109036 M)), some (0, (fQ_is a0 385495 M)), none, none], [], m222)) rfl trivial ?_
                    cases h
                    exact xEvG_ret xml xfetch rfl
                · have h := xif_f c_ h
                  refine xEvG_n xml xfetch 1 (y := (117, 104, [some (13, a0), some (0, (fQ_is a0 63030 M)), some (0, (fQ_is a0 279109036 M)), some (0, (fQ_is a0 385495 M)), none, none], [(13, a0)], m220)) rfl trivial ?_
                  obtain ⟨m223, e_, h⟩ := xB_t h
                  refine xEvG_call xml xfetch (q := (none, m223)) rfl (hQ_manLine a0 m220 _ e_) ?_
                  show xEv (117, 107, [some (13, a0), some (0, (fQ_is a0 63030 M)), some (0, (fQ_is a0 279109036 M)), some (0, (fQ_is a0 385495 M)), none, none], [], m223) _
                  refine xEvG_n xml xfetch 1 (y := (117, 191, [some (13, a0), some (0, (fQ_is a0 63030 M)), some (0, (fQ_is a0 279109036 M)), some (0, (fQ_is a0 385495 M)), none, none], [], m223)) rfl trivial ?_
                  cases h
                  exact xEvG_ret xml xfetch rfl
            · have h := xif_f c_ h
              cases h
              exact xEvG_ret xml xfetch rfl
      · have h := xif_f c_ h
        refine xEvG_n xml xfetch 2 (y := (117, 47, [some (13, a0), some (0, (fQ_is a0 63030 M)), some (0, (fQ_is a0 279109036 M)), some (0, (fQ_is a0 385495 M)), none, none], [(0, 5), (13, a0)], M)) rfl trivial ?_
        obtain ⟨v224, e_, h⟩ := xB_t h
        refine xEvG_call xml xfetch (q := (some (0, v224), M)) rfl (hQ_hasRead a0 5 M _ e_) ?_
        show xEv (117, 50, [some (13, a0), some (0, (fQ_is a0 63030 M)), some (0, (fQ_is a0 279109036 M)), some (0, (fQ_is a0 385495 M)), none, none], [(0, v224)], M) _
        refine xEvG_n xml xfetch 2 (y := (117, if v224 = 8 then 70 else 55, [some (13, a0), some (0, (fQ_is a0 63030 M)), some (0, (fQ_is a0 279109036 M)), some (0, (fQ_is a0 385495 M)), none, none], [], M)) rfl trivial ?_
        refine xEvG_br xml xfetch (fun c_ => ?_) (fun c_ => ?_)
        · have h := xif_t c_ h
          refine xEvG_n xml xfetch 2 (y := (117, 72, [some (13, a0), some (0, (fQ_is a0 63030 M)), some (0, (fQ_is a0 279109036 M)), some (0, (fQ_is a0 385495 M)), none, none], [(0, 3), (13, a0)], M)) rfl trivial ?_
          refine xEvG_call xml xfetch (q := (none, fQ_fails a0 3 M)) rfl (hQ_fails a0 3 M _ rfl) ?_
          show xEv (117, 75, [some (13, a0), some (0, (fQ_is a0 63030 M)), some (0, (fQ_is a0 279109036 M)), some (0, (fQ_is a0 385495 M)), none, none], [], (fQ_fails a0 3 M)) _
          refine xEvG_n xml xfetch 3 (y := (117, if ((fQ_fails a0 3 M) a0 12) = 0 then 83 else 82, [some (13, a0), some (0, (fQ_is a0 63030 M)), some (0, (fQ_is a0 279109036 M)), some (0, (fQ_is a0 385495 M)), none, none], [], (fQ_fails a0 3 M))) rfl trivial ?_
          refine xEvG_br xml xfetch (fun c_ => ?_) (fun c_ => ?_)
          · have h := xif_t c_ h
            refine xEvG_n xml xfetch 2 (y := (117, if (fQ_is a0 63030 M) = 0 then 87 else 95, [some (13, a0), some (0, (fQ_is a0 63030 M)), some (0, (fQ_is a0 279109036 M)), some (0, (fQ_is a0 385495 M)), none, none], [], (fQ_fails a0 3 M))) rfl trivial ?_
            refine xEvG_br xml xfetch (fun c_ => ?_) (fun c_ => ?_)
            · have h := xif_t c_ h
              refine xEvG_n xml xfetch 2 (y := (117, if (fQ_is a0 279109036 M) = 0 then 91 else 95, [some (13, a0), some (0, (fQ_is a0 63030 M)), some (0, (fQ_is a0 279109036 M)), some (0, (fQ_is a0 385495 M)), none, none], [], (fQ_fails a0 3 M))) rfl trivial ?_
              refine xEvG_br xml xfetch (fun c_ => ?_) (fun c_ => ?_)
              · have h := xif_t c_ h
                refine xEvG_n xml xfetch 2 (y := (117, if (fQ_is a0 385495 M) = 0 then 128 else 95, [some (13, a0), some (0, (fQ_is a0 63030 M)), some (0, (fQ_is a0 279109036 M)), some (0, (fQ_is a0 385495 M)), none, none], [], (fQ_fails a0 3 M))) rfl trivial ?_
                refine xEvG_br xml xfetch (fun c_ => ?_) (fun c_ => ?_)
                · have h := xif_t c_ h
                  refine xEvG_n xml xfetch 2 (y := (117, 132, [some (13, a0), some (0, (fQ_is a0 63030 M)), some (0, (fQ_is a0 279109036 M)), some (0, (fQ_is a0 385495 M)), none, none], [(1, 6888374364), (13, a0)], (fQ_fails a0 3 M))) rfl trivial ?_
                  obtain ⟨⟨v226, m226⟩, e_, h⟩ := xB_t h
                  refine xEvG_call xml xfetch (q := (some (0, v226), m226)) rfl (hQ_takes a0 6888374364 (fQ_fails a0 3 M) _ e_) ?_
                  show xEv (117, 135, [some (13, a0), some (0, (fQ_is a0 63030 M)), some (0, (fQ_is a0 279109036 M)), some (0, (fQ_is a0 385495 M)), none, none], [(0, v226)], m226) _
                  refine xEvG_n xml xfetch 1 (y := (117, if v226 = 0 then 145 else 138, [some (13, a0), some (0, (fQ_is a0 63030 M)), some (0, (fQ_is a0 279109036 M)), some (0, (fQ_is a0 385495 M)), none, none], [], m226)) rfl trivial ?_
                  refine xEvG_br xml xfetch (fun c_ => ?_) (fun c_ => ?_)
                  · have h := xif_t c_ h
                    refine xEvG_n xml xfetch 2 (y := (117, 149, [some (13, a0), some (0, (fQ_is a0 63030 M)), some (0, (fQ_is a0 279109036 M)), some (0, (fQ_is a0 385495 M)), none, none], [(1, 323717), (13, a0)], m226)) rfl trivial ?_
                    obtain ⟨m227, e_, h⟩ := xB_t h
                    refine xEvG_call xml xfetch (q := (none, m227)) rfl (hQ_asks a0 323717 m226 _ e_) ?_
                    show xEv (117, 152, [some (13, a0), some (0, (fQ_is a0 63030 M)), some (0, (fQ_is a0 279109036 M)), some (0, (fQ_is a0 385495 M)), none, none], [], m227) _
                    refine xEvG_n xml xfetch 4 (y := (117, 156, [some (13, a0), some (0, (fQ_is a0 63030 M)), some (0, (fQ_is a0 279109036 M)), some (0, (fQ_is a0 385495 M)), none, none], [(0, 1), (13, a0), (0, 0), (13, a0)], m227)) rfl trivial ?_
                    obtain ⟨v228, e_, h⟩ := xB_t h
                    refine xEvG_call xml xfetch (q := (some (0, v228), m227)) rfl (hQ_hasRead a0 1 m227 _ e_) ?_
                    show xEv (117, 159, [some (13, a0), some (0, (fQ_is a0 63030 M)), some (0, (fQ_is a0 279109036 M)), some (0, (fQ_is a0 385495 M)), none, none], [(0, v228), (0, 0), (13, a0)], m227) _
                    refine xEvG_n xml xfetch 2 (y := (117, 161, [some (13, a0), some (0, (fQ_is a0 63030 M)), some (0, (fQ_is a0 279109036 M)), some (0, (fQ_is a0 385495 M)), none, none], [(0, (xw32 (v228 - 1))), (0, 0), (13, a0)], m227)) rfl trivial ?_
                    obtain ⟨⟨v229, m229⟩, e_, h⟩ := xB_t h
                    refine xEvG_call xml xfetch (q := (some (0, v229), m229)) rfl (hQ_number2 a0 0 (xw32 (v228 - 1)) m227 _ e_) ?_
                    show xEv (117, 164, [some (13, a0), some (0, (fQ_is a0 63030 M)), some (0, (fQ_is a0 279109036 M)), some (0, (fQ_is a0 385495 M)), none, none], [(0, v229)], m229) _
                    refine xEvG_n xml xfetch 2 (y := (117, 167, [some (13, a0), some (0, (fQ_is a0 63030 M)), some (0, (fQ_is a0 279109036 M)), some (0, (fQ_is a0 385495 M)), some (0, v229), none], [(13, a0)], m229)) rfl trivial ?_
                    obtain ⟨⟨v230, m230⟩, e_, h⟩ := xB_t h
                    refine xEvG_call xml xfetch (q := (some (0, v230), m230)) rfl (hQ_cellHere a0 m229 _ e_) ?_
                    show xEv (117, 170, [some (13, a0), some (0, (fQ_is a0 63030 M)), some (0, (fQ_is a0 279109036 M)), some (0, (fQ_is a0 385495 M)), some (0, v229), none], [(0, v230)], m230) _
                    refine xEvG_n xml xfetch 2 (y := (117, 173, [some (13, a0), some (0, (fQ_is a0 63030 M)), some (0, (fQ_is a0 279109036 M)), some (0, (fQ_is a0 385495 M)), some (0, v229), some (0, v230)], [(13, a0)], m230)) rfl trivial ?_
                    refine xEvG_call xml xfetch (q := (some (0, fQ_isGood a0 m230), m230)) rfl (hQ_isGood a0 m230 _ rfl) ?_
                    show xEv (117, 176, [some (13, a0), some (0, (fQ_is a0 63030 M)), some (0, (fQ_is a0 279109036 M)), some (0, (fQ_is a0 385495 M)), some (0, v229), some (0, v230)], [(0, (fQ_isGood a0 m230))], m230) _
                    refine xEvG_n xml xfetch 1 (y := (117, if (fQ_isGood a0 m230) = 0 then 191 else 179, [some (13, a0), some (0, (fQ_is a0 63030 M)), some (0, (fQ_is a0 279109036 M)), some (0, (fQ_is a0 385495 M)), some (0, v229), some (0, v230)], [], m230)) rfl trivial ?_
                    refine xEvG_br xml xfetch (fun c_ => ?_) (fun c_ => ?_)
                    · have h := xif_t c_ h
                      cases h
                      exact xEvG_ret xml xfetch rfl
                    · have h := xif_f c_ h
                      have a0_ := (xA_t h).1
                      have h := (xA_t h).2
                      refine xEvG_n xml xfetch 7 (y := (117, 191, [some (13, a0), some (0, (fQ_is a0 63030 M)), some (0, (fQ_is a0 279109036 M)), some (0, (fQ_is a0 385495 M)), some (0, v229), some (0, v230)], [], (xwr m230 (a0 + 11) (xw32 (96 + v229)) v230))) rfl ⟨a0_, trivial⟩ ?_
                      cases h
                      exact xEvG_ret xml xfetch rfl
                  · have h := xif_f c_ h
                    refine xEvG_n xml xfetch 1 (y := (117, 139, [some (13, a0), some (0, (fQ_is a0 63030 M)), some (0, (fQ_is a0 279109036 M)), some (0, (fQ_is a0 385495 M)), none, none], [(13, a0)], m226)) rfl trivial ?_
                    obtain ⟨m232, e_, h⟩ := xB_t h
                    refine xEvG_call xml xfetch (q := (none, m232)) rfl (hQ_quarrelLine a0 m226 _ e_) ?_
                    show xEv (117, 142, [some (13, a0), some (0, (fQ_is a0 63030 M)), some (0, (fQ_is a0 279109036 M)), some (0, (fQ_is a0 385495 M)), none, none], [], m232) _
                    refine xEvG_n xml xfetch 1 (y := (117, 191, [some (13, a0), some (0, (fQ_is a0 63030 M)), some (0, (fQ_is a0 279109036 M)), some (0, (fQ_is a0 385495 M)), none, none], [], m232)) rfl trivial ?_
                    cases h
                    exact xEvG_ret xml xfetch rfl
                · have h := xif_f c_ h
                  refine xEvG_n xml xfetch 1 (y := (117, 96, [some (13, a0), some (0, (fQ_is a0 63030 M)), some (0, (fQ_is a0 279109036 M)), some (0, (fQ_is a0 385495 M)), none, none], [(13, a0)], (fQ_fails a0 3 M))) rfl trivial ?_
                  obtain ⟨m233, e_, h⟩ := xB_t h
                  refine xEvG_call xml xfetch (q := (none, m233)) rfl (hQ_next a0 (fQ_fails a0 3 M) _ e_) ?_
                  show xEv (117, 99, [some (13, a0), some (0, (fQ_is a0 63030 M)), some (0, (fQ_is a0 279109036 M)), some (0, (fQ_is a0 385495 M)), none, none], [], m233) _
                  refine xEvG_n xml xfetch 2 (y := (117, if (fQ_is a0 63030 M) = 0 then 110 else 103, [some (13, a0), some (0, (fQ_is a0 63030 M)), some (0, (fQ_is a0 279109036 M)), some (0, (fQ_is a0 385495 M)), none, none], [], m233)) rfl trivial ?_
                  refine xEvG_br xml xfetch (fun c_ => ?_) (fun c_ => ?_)
                  · have h := xif_t c_ h
                    refine xEvG_n xml xfetch 2 (y := (117, if (fQ_is a0 279109036 M) = 0 then 121 else 114, [some (13, a0), some (0, (fQ_is a0 63030 M)), some (0, (fQ_is a0 279109036 M)), some (0, (fQ_is a0 385495 M)), none, none], [], m233)) rfl trivial ?_
                    refine xEvG_br xml xfetch (fun c_ => ?_) (fun c_ => ?_)
                    · have h := xif_t c_ h
                      refine xEvG_n xml xfetch 1 (y := (117, 122, [some (13, a0), some (0, (fQ_is a0 63030 M)), some (0, (fQ_is a0 279109036 M)), some (0, (fQ_is a0 385495 M)), none, none], [(13, a0)], m233)) rfl trivial ?_
                      obtain ⟨m234, e_, h⟩ := xB_t h
                      refine xEvG_call xml xfetch (q := (none, m234)) rfl (hQ_soupLine a0 m233 _ e_) ?_
                      show xEv (117, 125, [some (13, a0), some (0, (fQ_is a0 63030 M)), some (0, (fQ_is a0 279109036 M)), some (0, (fQ_is a0 385495 M)), none, none], [], m234) _
                      refine xEvG_n xml xfetch 1 (y := (117, 191, [some (13, a0), some (0, (fQ_is a0 63030 M)), some (0, (fQ_is a0 279109036 M)), some (0, (fQ_is a0 385495 M)), none, none], [], m234)) rfl trivial ?_
                      cases h
                      exact xEvG_ret xml xfetch rfl
                    · have h := xif_f c_ h
                      refine xEvG_n xml xfetch 1 (y := (117, 115, [some (13, a0), some (0, (fQ_is a0 63030 M)), some (0, (fQ_is a0 279109036 M)), some (0, (fQ_is a0 385495 M)), none, none], [(13, a0)], m233)) rfl trivial ?_
                      obtain ⟨m235, e_, h⟩ := xB_t h
                      refine xEvG_call xml xfetch (q := (none, m235)) rfl (hQ_sleepLine a0 m233 _ e_) ?_
                      show xEv (117, 118, [some (13, a0), some (0, (fQ_is a0 63030 M)), some (0, (fQ_is a0 279109036 M)), some (0, (fQ_is a0 385495 M)), none, none], [], m235) _
                      refine xEvG_n xml xfetch 1 (y := (117, 191, [some (13, a0), some (0, (fQ_is a0 63030 M)), some (0, (fQ_is a0 279109036 M)), some (0, (fQ_is a0 385495 M)), none, none], [], m235)) rfl trivial ?_
                      cases h
                      exact xEvG_ret xml xfetch rfl
                  · have h := xif_f c_ h
                    refine xEvG_n xml xfetch 1 (y := (117, 104, [some (13, a0), some (0, (fQ_is a0 63030 M)), some (0, (fQ_is a0 279109036 M)), some (0, (fQ_is a0 385495 M)), none, none], [(13, a0)], m233)) rfl trivial ?_
                    obtain ⟨m236, e_, h⟩ := xB_t h
                    refine xEvG_call xml xfetch (q := (none, m236)) rfl (hQ_manLine a0 m233 _ e_) ?_
                    show xEv (117, 107, [some (13, a0), some (0, (fQ_is a0 63030 M)), some (0, (fQ_is a0 279109036 M)), some (0, (fQ_is a0 385495 M)), none, none], [], m236) _
                    refine xEvG_n xml xfetch 1 (y := (117, 191, [some (13, a0), some (0, (fQ_is a0 63030 M)), some (0, (fQ_is a0 279109036 M)), some (0, (fQ_is a0 385495 M)), none, none], [], m236)) rfl trivial ?_
                    cases h
                    exact xEvG_ret xml xfetch rfl
              · have h := xif_f c_ h
                refine xEvG_n xml xfetch 1 (y := (117, 96, [some (13, a0), some (0, (fQ_is a0 63030 M)), some (0, (fQ_is a0 279109036 M)), some (0, (fQ_is a0 385495 M)), none, none], [(13, a0)], (fQ_fails a0 3 M))) rfl trivial ?_
                obtain ⟨m237, e_, h⟩ := xB_t h
                refine xEvG_call xml xfetch (q := (none, m237)) rfl (hQ_next a0 (fQ_fails a0 3 M) _ e_) ?_
                show xEv (117, 99, [some (13, a0), some (0, (fQ_is a0 63030 M)), some (0, (fQ_is a0 279109036 M)), some (0, (fQ_is a0 385495 M)), none, none], [], m237) _
                refine xEvG_n xml xfetch 2 (y := (117, if (fQ_is a0 63030 M) = 0 then 110 else 103, [some (13, a0), some (0, (fQ_is a0 63030 M)), some (0, (fQ_is a0 279109036 M)), some (0, (fQ_is a0 385495 M)), none, none], [], m237)) rfl trivial ?_
                refine xEvG_br xml xfetch (fun c_ => ?_) (fun c_ => ?_)
                · have h := xif_t c_ h
                  refine xEvG_n xml xfetch 2 (y := (117, if (fQ_is a0 279109036 M) = 0 then 121 else 114, [some (13, a0), some (0, (fQ_is a0 63030 M)), some (0, (fQ_is a0 279109036 M)), some (0, (fQ_is a0 385495 M)), none, none], [], m237)) rfl trivial ?_
                  refine xEvG_br xml xfetch (fun c_ => ?_) (fun c_ => ?_)
                  · have h := xif_t c_ h
                    refine xEvG_n xml xfetch 1 (y := (117, 122, [some (13, a0), some (0, (fQ_is a0 63030 M)), some (0, (fQ_is a0 279109036 M)), some (0, (fQ_is a0 385495 M)), none, none], [(13, a0)], m237)) rfl trivial ?_
                    obtain ⟨m238, e_, h⟩ := xB_t h
                    refine xEvG_call xml xfetch (q := (none, m238)) rfl (hQ_soupLine a0 m237 _ e_) ?_
                    show xEv (117, 125, [some (13, a0), some (0, (fQ_is a0 63030 M)), some (0, (fQ_is a0 279109036 M)), some (0, (fQ_is a0 385495 M)), none, none], [], m238) _
                    refine xEvG_n xml xfetch 1 (y := (117, 191, [some (13, a0), some (0, (fQ_is a0 63030 M)), some (0, (fQ_is a0 279109036 M)), some (0, (fQ_is a0 385495 M)), none, none], [], m238)) rfl trivial ?_
                    cases h
                    exact xEvG_ret xml xfetch rfl
                  · have h := xif_f c_ h
                    refine xEvG_n xml xfetch 1 (y := (117, 115, [some (13, a0), some (0, (fQ_is a0 63030 M)), some (0, (fQ_is a0 279109036 M)), some (0, (fQ_is a0 385495 M)), none, none], [(13, a0)], m237)) rfl trivial ?_
                    obtain ⟨m239, e_, h⟩ := xB_t h
                    refine xEvG_call xml xfetch (q := (none, m239)) rfl (hQ_sleepLine a0 m237 _ e_) ?_
                    show xEv (117, 118, [some (13, a0), some (0, (fQ_is a0 63030 M)), some (0, (fQ_is a0 279109036 M)), some (0, (fQ_is a0 385495 M)), none, none], [], m239) _
                    refine xEvG_n xml xfetch 1 (y := (117, 191, [some (13, a0), some (0, (fQ_is a0 63030 M)), some (0, (fQ_is a0 279109036 M)), some (0, (fQ_is a0 385495 M)), none, none], [], m239)) rfl trivial ?_
                    cases h
                    exact xEvG_ret xml xfetch rfl
                · have h := xif_f c_ h
                  refine xEvG_n xml xfetch 1 (y := (117, 104, [some (13, a0), some (0, (fQ_is a0 63030 M)), some (0, (fQ_is a0 279109036 M)), some (0, (fQ_is a0 385495 M)), none, none], [(13, a0)], m237)) rfl trivial ?_
                  obtain ⟨m240, e_, h⟩ := xB_t h
                  refine xEvG_call xml xfetch (q := (none, m240)) rfl (hQ_manLine a0 m237 _ e_) ?_
                  show xEv (117, 107, [some (13, a0), some (0, (fQ_is a0 63030 M)), some (0, (fQ_is a0 279109036 M)), some (0, (fQ_is a0 385495 M)), none, none], [], m240) _
                  refine xEvG_n xml xfetch 1 (y := (117, 191, [some (13, a0), some (0, (fQ_is a0 63030 M)), some (0, (fQ_is a0 279109036 M)), some (0, (fQ_is a0 385495 M)), none, none], [], m240)) rfl trivial ?_
                  cases h
                  exact xEvG_ret xml xfetch rfl
            · have h := xif_f c_ h
              refine xEvG_n xml xfetch 1 (y := (117, 96, [some (13, a0), some (0, (fQ_is a0 63030 M)), some (0, (fQ_is a0 279109036 M)), some (0, (fQ_is a0 385495 M)), none, none], [(13, a0)], (fQ_fails a0 3 M))) rfl trivial ?_
              obtain ⟨m241, e_, h⟩ := xB_t h
              refine xEvG_call xml xfetch (q := (none, m241)) rfl (hQ_next a0 (fQ_fails a0 3 M) _ e_) ?_
              show xEv (117, 99, [some (13, a0), some (0, (fQ_is a0 63030 M)), some (0, (fQ_is a0 279109036 M)), some (0, (fQ_is a0 385495 M)), none, none], [], m241) _
              refine xEvG_n xml xfetch 2 (y := (117, if (fQ_is a0 63030 M) = 0 then 110 else 103, [some (13, a0), some (0, (fQ_is a0 63030 M)), some (0, (fQ_is a0 279109036 M)), some (0, (fQ_is a0 385495 M)), none, none], [], m241)) rfl trivial ?_
              refine xEvG_br xml xfetch (fun c_ => ?_) (fun c_ => ?_)
              · have h := xif_t c_ h
                refine xEvG_n xml xfetch 2 (y := (117, if (fQ_is a0 279109036 M) = 0 then 121 else 114, [some (13, a0), some (0, (fQ_is a0 63030 M)), some (0, (fQ_is a0 279109036 M)), some (0, (fQ_is a0 385495 M)), none, none], [], m241)) rfl trivial ?_
                refine xEvG_br xml xfetch (fun c_ => ?_) (fun c_ => ?_)
                · have h := xif_t c_ h
                  refine xEvG_n xml xfetch 1 (y := (117, 122, [some (13, a0), some (0, (fQ_is a0 63030 M)), some (0, (fQ_is a0 279109036 M)), some (0, (fQ_is a0 385495 M)), none, none], [(13, a0)], m241)) rfl trivial ?_
                  obtain ⟨m242, e_, h⟩ := xB_t h
                  refine xEvG_call xml xfetch (q := (none, m242)) rfl (hQ_soupLine a0 m241 _ e_) ?_
                  show xEv (117, 125, [some (13, a0), some (0, (fQ_is a0 63030 M)), some (0, (fQ_is a0 279109036 M)), some (0, (fQ_is a0 385495 M)), none, none], [], m242) _
                  refine xEvG_n xml xfetch 1 (y := (117, 191, [some (13, a0), some (0, (fQ_is a0 63030 M)), some (0, (fQ_is a0 279109036 M)), some (0, (fQ_is a0 385495 M)), none, none], [], m242)) rfl trivial ?_
                  cases h
                  exact xEvG_ret xml xfetch rfl
                · have h := xif_f c_ h
                  refine xEvG_n xml xfetch 1 (y := (117, 115, [some (13, a0), some (0, (fQ_is a0 63030 M)), some (0, (fQ_is a0 279109036 M)), some (0, (fQ_is a0 385495 M)), none, none], [(13, a0)], m241)) rfl trivial ?_
                  obtain ⟨m243, e_, h⟩ := xB_t h
                  refine xEvG_call xml xfetch (q := (none, m243)) rfl (hQ_sleepLine a0 m241 _ e_) ?_
                  show xEv (117, 118, [some (13, a0), some (0, (fQ_is a0 63030 M)), some (0, (fQ_is a0 279109036 M)), some (0, (fQ_is a0 385495 M)), none, none], [], m243) _
                  refine xEvG_n xml xfetch 1 (y := (117, 191, [some (13, a0), some (0, (fQ_is a0 63030 M)), some (0, (fQ_is a0 279109036 M)), some (0, (fQ_is a0 385495 M)), none, none], [], m243)) rfl trivial ?_
                  cases h
                  exact xEvG_ret xml xfetch rfl
              · have h := xif_f c_ h
                refine xEvG_n xml xfetch 1 (y := (117, 104, [some (13, a0), some (0, (fQ_is a0 63030 M)), some (0, (fQ_is a0 279109036 M)), some (0, (fQ_is a0 385495 M)), none, none], [(13, a0)], m241)) rfl trivial ?_
                obtain ⟨m244, e_, h⟩ := xB_t h
                refine xEvG_call xml xfetch (q := (none, m244)) rfl (hQ_manLine a0 m241 _ e_) ?_
                show xEv (117, 107, [some (13, a0), some (0, (fQ_is a0 63030 M)), some (0, (fQ_is a0 279109036 M)), some (0, (fQ_is a0 385495 M)), none, none], [], m244) _
                refine xEvG_n xml xfetch 1 (y := (117, 191, [some (13, a0), some (0, (fQ_is a0 63030 M)), some (0, (fQ_is a0 279109036 M)), some (0, (fQ_is a0 385495 M)), none, none], [], m244)) rfl trivial ?_
                cases h
                exact xEvG_ret xml xfetch rfl
          · have h := xif_f c_ h
            cases h
            exact xEvG_ret xml xfetch rfl
        · have h := xif_f c_ h
          refine xEvG_n xml xfetch 2 (y := (117, if (fQ_is a0 385495 M) = 0 then 75 else 59, [some (13, a0), some (0, (fQ_is a0 63030 M)), some (0, (fQ_is a0 279109036 M)), some (0, (fQ_is a0 385495 M)), none, none], [], M)) rfl trivial ?_
          refine xEvG_br xml xfetch (fun c_ => ?_) (fun c_ => ?_)
          · have h := xif_t c_ h
            refine xEvG_n xml xfetch 3 (y := (117, if (M a0 12) = 0 then 83 else 82, [some (13, a0), some (0, (fQ_is a0 63030 M)), some (0, (fQ_is a0 279109036 M)), some (0, (fQ_is a0 385495 M)), none, none], [], M)) rfl trivial ?_
            refine xEvG_br xml xfetch (fun c_ => ?_) (fun c_ => ?_)
            · have h := xif_t c_ h
              refine xEvG_n xml xfetch 2 (y := (117, if (fQ_is a0 63030 M) = 0 then 87 else 95, [some (13, a0), some (0, (fQ_is a0 63030 M)), some (0, (fQ_is a0 279109036 M)), some (0, (fQ_is a0 385495 M)), none, none], [], M)) rfl trivial ?_
              refine xEvG_br xml xfetch (fun c_ => ?_) (fun c_ => ?_)
              · have h := xif_t c_ h
                refine xEvG_n xml xfetch 2 (y := (117, if (fQ_is a0 279109036 M) = 0 then 91 else 95, [some (13, a0), some (0, (fQ_is a0 63030 M)), some (0, (fQ_is a0 279109036 M)), some (0, (fQ_is a0 385495 M)), none, none], [], M)) rfl trivial ?_
                refine xEvG_br xml xfetch (fun c_ => ?_) (fun c_ => ?_)
                · have h := xif_t c_ h
                  refine xEvG_n xml xfetch 2 (y := (117, if (fQ_is a0 385495 M) = 0 then 128 else 95, [some (13, a0), some (0, (fQ_is a0 63030 M)), some (0, (fQ_is a0 279109036 M)), some (0, (fQ_is a0 385495 M)), none, none], [], M)) rfl trivial ?_
                  refine xEvG_br xml xfetch (fun c_ => ?_) (fun c_ => ?_)
                  · have h := xif_t c_ h
                    refine xEvG_n xml xfetch 2 (y := (117, 132, [some (13, a0), some (0, (fQ_is a0 63030 M)), some (0, (fQ_is a0 279109036 M)), some (0, (fQ_is a0 385495 M)), none, none], [(1, 6888374364), (13, a0)], M)) rfl trivial ?_
                    obtain ⟨⟨v245, m245⟩, e_, h⟩ := xB_t h
                    refine xEvG_call xml xfetch (q := (some (0, v245), m245)) rfl (hQ_takes a0 6888374364 M _ e_) ?_
                    show xEv (117, 135, [some (13, a0), some (0, (fQ_is a0 63030 M)), some (0, (fQ_is a0 279109036 M)), some (0, (fQ_is a0 385495 M)), none, none], [(0, v245)], m245) _
                    refine xEvG_n xml xfetch 1 (y := (117, if v245 = 0 then 145 else 138, [some (13, a0), some (0, (fQ_is a0 63030 M)), some (0, (fQ_is a0 279109036 M)), some (0, (fQ_is a0 385495 M)), none, none], [], m245)) rfl trivial ?_
                    refine xEvG_br xml xfetch (fun c_ => ?_) (fun c_ => ?_)
                    · have h := xif_t c_ h
                      refine xEvG_n xml xfetch 2 (y := (117, 149, [some (13, a0), some (0, (fQ_is a0 63030 M)), some (0, (fQ_is a0 279109036 M)), some (0, (fQ_is a0 385495 M)), none, none], [(1, 323717), (13, a0)], m245)) rfl trivial ?_
                      obtain ⟨m246, e_, h⟩ := xB_t h
                      refine xEvG_call xml xfetch (q := (none, m246)) rfl (hQ_asks a0 323717 m245 _ e_) ?_
                      show xEv (117, 152, [some (13, a0), some (0, (fQ_is a0 63030 M)), some (0, (fQ_is a0 279109036 M)), some (0, (fQ_is a0 385495 M)), none, none], [], m246) _
                      refine xEvG_n xml xfetch 4 (y := (117, 156, [some (13, a0), some (0, (fQ_is a0 63030 M)), some (0, (fQ_is a0 279109036 M)), some (0, (fQ_is a0 385495 M)), none, none], [(0, 1), (13, a0), (0, 0), (13, a0)], m246)) rfl trivial ?_
                      obtain ⟨v247, e_, h⟩ := xB_t h
                      refine xEvG_call xml xfetch (q := (some (0, v247), m246)) rfl (hQ_hasRead a0 1 m246 _ e_) ?_
                      show xEv (117, 159, [some (13, a0), some (0, (fQ_is a0 63030 M)), some (0, (fQ_is a0 279109036 M)), some (0, (fQ_is a0 385495 M)), none, none], [(0, v247), (0, 0), (13, a0)], m246) _
                      refine xEvG_n xml xfetch 2 (y := (117, 161, [some (13, a0), some (0, (fQ_is a0 63030 M)), some (0, (fQ_is a0 279109036 M)), some (0, (fQ_is a0 385495 M)), none, none], [(0, (xw32 (v247 - 1))), (0, 0), (13, a0)], m246)) rfl trivial ?_
                      obtain ⟨⟨v248, m248⟩, e_, h⟩ := xB_t h
                      refine xEvG_call xml xfetch (q := (some (0, v248), m248)) rfl (hQ_number2 a0 0 (xw32 (v247 - 1)) m246 _ e_) ?_
                      show xEv (117, 164, [some (13, a0), some (0, (fQ_is a0 63030 M)), some (0, (fQ_is a0 279109036 M)), some (0, (fQ_is a0 385495 M)), none, none], [(0, v248)], m248) _
                      refine xEvG_n xml xfetch 2 (y := (117, 167, [some (13, a0), some (0, (fQ_is a0 63030 M)), some (0, (fQ_is a0 279109036 M)), some (0, (fQ_is a0 385495 M)), some (0, v248), none], [(13, a0)], m248)) rfl trivial ?_
                      obtain ⟨⟨v249, m249⟩, e_, h⟩ := xB_t h
                      refine xEvG_call xml xfetch (q := (some (0, v249), m249)) rfl (hQ_cellHere a0 m248 _ e_) ?_
                      show xEv (117, 170, [some (13, a0), some (0, (fQ_is a0 63030 M)), some (0, (fQ_is a0 279109036 M)), some (0, (fQ_is a0 385495 M)), some (0, v248), none], [(0, v249)], m249) _
                      refine xEvG_n xml xfetch 2 (y := (117, 173, [some (13, a0), some (0, (fQ_is a0 63030 M)), some (0, (fQ_is a0 279109036 M)), some (0, (fQ_is a0 385495 M)), some (0, v248), some (0, v249)], [(13, a0)], m249)) rfl trivial ?_
                      refine xEvG_call xml xfetch (q := (some (0, fQ_isGood a0 m249), m249)) rfl (hQ_isGood a0 m249 _ rfl) ?_
                      show xEv (117, 176, [some (13, a0), some (0, (fQ_is a0 63030 M)), some (0, (fQ_is a0 279109036 M)), some (0, (fQ_is a0 385495 M)), some (0, v248), some (0, v249)], [(0, (fQ_isGood a0 m249))], m249) _
                      refine xEvG_n xml xfetch 1 (y := (117, if (fQ_isGood a0 m249) = 0 then 191 else 179, [some (13, a0), some (0, (fQ_is a0 63030 M)), some (0, (fQ_is a0 279109036 M)), some (0, (fQ_is a0 385495 M)), some (0, v248), some (0, v249)], [], m249)) rfl trivial ?_
                      refine xEvG_br xml xfetch (fun c_ => ?_) (fun c_ => ?_)
                      · have h := xif_t c_ h
                        cases h
                        exact xEvG_ret xml xfetch rfl
                      · have h := xif_f c_ h
                        have a0_ := (xA_t h).1
                        have h := (xA_t h).2
                        refine xEvG_n xml xfetch 7 (y := (117, 191, [some (13, a0), some (0, (fQ_is a0 63030 M)), some (0, (fQ_is a0 279109036 M)), some (0, (fQ_is a0 385495 M)), some (0, v248), some (0, v249)], [], (xwr m249 (a0 + 11) (xw32 (96 + v248)) v249))) rfl ⟨a0_, trivial⟩ ?_
                        cases h
                        exact xEvG_ret xml xfetch rfl
                    · have h := xif_f c_ h
                      refine xEvG_n xml xfetch 1 (y := (117, 139, [some (13, a0), some (0, (fQ_is a0 63030 M)), some (0, (fQ_is a0 279109036 M)), some (0, (fQ_is a0 385495 M)), none, none], [(13, a0)], m245)) rfl trivial ?_
                      obtain ⟨m251, e_, h⟩ := xB_t h
                      refine xEvG_call xml xfetch (q := (none, m251)) rfl (hQ_quarrelLine a0 m245 _ e_) ?_
                      show xEv (117, 142, [some (13, a0), some (0, (fQ_is a0 63030 M)), some (0, (fQ_is a0 279109036 M)), some (0, (fQ_is a0 385495 M)), none, none], [], m251) _
                      refine xEvG_n xml xfetch 1 (y := (117, 191, [some (13, a0), some (0, (fQ_is a0 63030 M)), some (0, (fQ_is a0 279109036 M)), some (0, (fQ_is a0 385495 M)), none, none], [], m251)) rfl trivial ?_
                      cases h
                      exact xEvG_ret xml xfetch rfl
                  · have h := xif_f c_ h
                    refine xEvG_n xml xfetch 1 (y := (117, 96, [some (13, a0), some (0, (fQ_is a0 63030 M)), some (0, (fQ_is a0 279109036 M)), some (0, (fQ_is a0 385495 M)), none, none], [(13, a0)], M)) rfl trivial ?_
                    obtain ⟨m252, e_, h⟩ := xB_t h
                    refine xEvG_call xml xfetch (q := (none, m252)) rfl (hQ_next a0 M _ e_) ?_
                    show xEv (117, 99, [some (13, a0), some (0, (fQ_is a0 63030 M)), some (0, (fQ_is a0 279109036 M)), some (0, (fQ_is a0 385495 M)), none, none], [], m252) _
                    refine xEvG_n xml xfetch 2 (y := (117, if (fQ_is a0 63030 M) = 0 then 110 else 103, [some (13, a0), some (0, (fQ_is a0 63030 M)), some (0, (fQ_is a0 279109036 M)), some (0, (fQ_is a0 385495 M)), none, none], [], m252)) rfl trivial ?_
                    refine xEvG_br xml xfetch (fun c_ => ?_) (fun c_ => ?_)
                    · have h := xif_t c_ h
                      refine xEvG_n xml xfetch 2 (y := (117, if (fQ_is a0 279109036 M) = 0 then 121 else 114, [some (13, a0), some (0, (fQ_is a0 63030 M)), some (0, (fQ_is a0 279109036 M)), some (0, (fQ_is a0 385495 M)), none, none], [], m252)) rfl trivial ?_
                      refine xEvG_br xml xfetch (fun c_ => ?_) (fun c_ => ?_)
                      · have h := xif_t c_ h
                        refine xEvG_n xml xfetch 1 (y := (117, 122, [some (13, a0), some (0, (fQ_is a0 63030 M)), some (0, (fQ_is a0 279109036 M)), some (0, (fQ_is a0 385495 M)), none, none], [(13, a0)], m252)) rfl trivial ?_
                        obtain ⟨m253, e_, h⟩ := xB_t h
                        refine xEvG_call xml xfetch (q := (none, m253)) rfl (hQ_soupLine a0 m252 _ e_) ?_
                        show xEv (117, 125, [some (13, a0), some (0, (fQ_is a0 63030 M)), some (0, (fQ_is a0 279109036 M)), some (0, (fQ_is a0 385495 M)), none, none], [], m253) _
                        refine xEvG_n xml xfetch 1 (y := (117, 191, [some (13, a0), some (0, (fQ_is a0 63030 M)), some (0, (fQ_is a0 279109036 M)), some (0, (fQ_is a0 385495 M)), none, none], [], m253)) rfl trivial ?_
                        cases h
                        exact xEvG_ret xml xfetch rfl
                      · have h := xif_f c_ h
                        refine xEvG_n xml xfetch 1 (y := (117, 115, [some (13, a0), some (0, (fQ_is a0 63030 M)), some (0, (fQ_is a0 279109036 M)), some (0, (fQ_is a0 385495 M)), none, none], [(13, a0)], m252)) rfl trivial ?_
                        obtain ⟨m254, e_, h⟩ := xB_t h
                        refine xEvG_call xml xfetch (q := (none, m254)) rfl (hQ_sleepLine a0 m252 _ e_) ?_
                        show xEv (117, 118, [some (13, a0), some (0, (fQ_is a0 63030 M)), some (0, (fQ_is a0 279109036 M)), some (0, (fQ_is a0 385495 M)), none, none], [], m254) _
                        refine xEvG_n xml xfetch 1 (y := (117, 191, [some (13, a0), some (0, (fQ_is a0 63030 M)), some (0, (fQ_is a0 279109036 M)), some (0, (fQ_is a0 385495 M)), none, none], [], m254)) rfl trivial ?_
                        cases h
                        exact xEvG_ret xml xfetch rfl
                    · have h := xif_f c_ h
                      refine xEvG_n xml xfetch 1 (y := (117, 104, [some (13, a0), some (0, (fQ_is a0 63030 M)), some (0, (fQ_is a0 279109036 M)), some (0, (fQ_is a0 385495 M)), none, none], [(13, a0)], m252)) rfl trivial ?_
                      obtain ⟨m255, e_, h⟩ := xB_t h
                      refine xEvG_call xml xfetch (q := (none, m255)) rfl (hQ_manLine a0 m252 _ e_) ?_
                      show xEv (117, 107, [some (13, a0), some (0, (fQ_is a0 63030 M)), some (0, (fQ_is a0 279109036 M)), some (0, (fQ_is a0 385495 M)), none, none], [], m255) _
                      refine xEvG_n xml xfetch 1 (y := (117, 191, [some (13, a0), some (0, (fQ_is a0 63030 M)), some (0, (fQ_is a0 279109036 M)), some (0, (fQ_is a0 385495 M)), none, none], [], m255)) rfl trivial ?_
                      cases h
                      exact xEvG_ret xml xfetch rfl
                · have h := xif_f c_ h
                  refine xEvG_n xml xfetch 1 (y := (117, 96, [some (13, a0), some (0, (fQ_is a0 63030 M)), some (0, (fQ_is a0 279109036 M)), some (0, (fQ_is a0 385495 M)), none, none], [(13, a0)], M)) rfl trivial ?_
                  obtain ⟨m256, e_, h⟩ := xB_t h
                  refine xEvG_call xml xfetch (q := (none, m256)) rfl (hQ_next a0 M _ e_) ?_
                  show xEv (117, 99, [some (13, a0), some (0, (fQ_is a0 63030 M)), some (0, (fQ_is a0 279109036 M)), some (0, (fQ_is a0 385495 M)), none, none], [], m256) _
                  refine xEvG_n xml xfetch 2 (y := (117, if (fQ_is a0 63030 M) = 0 then 110 else 103, [some (13, a0), some (0, (fQ_is a0 63030 M)), some (0, (fQ_is a0 279109036 M)), some (0, (fQ_is a0 385495 M)), none, none], [], m256)) rfl trivial ?_
                  refine xEvG_br xml xfetch (fun c_ => ?_) (fun c_ => ?_)
                  · have h := xif_t c_ h
                    refine xEvG_n xml xfetch 2 (y := (117, if (fQ_is a0 279109036 M) = 0 then 121 else 114, [some (13, a0), some (0, (fQ_is a0 63030 M)), some (0, (fQ_is a0 279109036 M)), some (0, (fQ_is a0 385495 M)), none, none], [], m256)) rfl trivial ?_
                    refine xEvG_br xml xfetch (fun c_ => ?_) (fun c_ => ?_)
                    · have h := xif_t c_ h
                      refine xEvG_n xml xfetch 1 (y := (117, 122, [some (13, a0), some (0, (fQ_is a0 63030 M)), some (0, (fQ_is a0 279109036 M)), some (0, (fQ_is a0 385495 M)), none, none], [(13, a0)], m256)) rfl trivial ?_
                      obtain ⟨m257, e_, h⟩ := xB_t h
                      refine xEvG_call xml xfetch (q := (none, m257)) rfl (hQ_soupLine a0 m256 _ e_) ?_
                      show xEv (117, 125, [some (13, a0), some (0, (fQ_is a0 63030 M)), some (0, (fQ_is a0 279109036 M)), some (0, (fQ_is a0 385495 M)), none, none], [], m257) _
                      refine xEvG_n xml xfetch 1 (y := (117, 191, [some (13, a0), some (0, (fQ_is a0 63030 M)), some (0, (fQ_is a0 279109036 M)), some (0, (fQ_is a0 385495 M)), none, none], [], m257)) rfl trivial ?_
                      cases h
                      exact xEvG_ret xml xfetch rfl
                    · have h := xif_f c_ h
                      refine xEvG_n xml xfetch 1 (y := (117, 115, [some (13, a0), some (0, (fQ_is a0 63030 M)), some (0, (fQ_is a0 279109036 M)), some (0, (fQ_is a0 385495 M)), none, none], [(13, a0)], m256)) rfl trivial ?_
                      obtain ⟨m258, e_, h⟩ := xB_t h
                      refine xEvG_call xml xfetch (q := (none, m258)) rfl (hQ_sleepLine a0 m256 _ e_) ?_
                      show xEv (117, 118, [some (13, a0), some (0, (fQ_is a0 63030 M)), some (0, (fQ_is a0 279109036 M)), some (0, (fQ_is a0 385495 M)), none, none], [], m258) _
                      refine xEvG_n xml xfetch 1 (y := (117, 191, [some (13, a0), some (0, (fQ_is a0 63030 M)), some (0, (fQ_is a0 279109036 M)), some (0, (fQ_is a0 385495 M)), none, none], [], m258)) rfl trivial ?_
                      cases h
                      exact xEvG_ret xml xfetch rfl
                  · have h := xif_f c_ h
                    refine xEvG_n xml xfetch 1 (y := (117, 104, [some (13, a0), some (0, (fQ_is a0 63030 M)), some (0, (fQ_is a0 279109036 M)), some (0, (fQ_is a0 385495 M)), none, none], [(13, a0)], m256)) rfl trivial ?_
                    obtain ⟨m259, e_, h⟩ := xB_t h
                    refine xEvG_call xml xfetch (q := (none, m259)) rfl (hQ_manLine a0 m256 _ e_) ?_
                    show xEv (117, 107, [some (13, a0), some (0, (fQ_is a0 63030 M)), some (0, (fQ_is a0 279109036 M)), some (0, (fQ_is a0 385495 M)), none, none], [], m259) _
                    refine xEvG_n xml xfetch 1 (y := (117, 191, [some (13, a0), some (0, (fQ_is a0 63030 M)), some (0, (fQ_is a0 279109036 M)), some (0, (fQ_is a0 385495 M)), none, none], [], m259)) rfl trivial ?_
                    cases h
                    exact xEvG_ret xml xfetch rfl
              · have h := xif_f c_ h
                refine xEvG_n xml xfetch 1 (y := (117, 96, [some (13, a0), some (0, (fQ_is a0 63030 M)), some (0, (fQ_is a0 279109036 M)), some (0, (fQ_is a0 385495 M)), none, none], [(13, a0)], M)) rfl trivial ?_
                obtain ⟨m260, e_, h⟩ := xB_t h
                refine xEvG_call xml xfetch (q := (none, m260)) rfl (hQ_next a0 M _ e_) ?_
                show xEv (117, 99, [some (13, a0), some (0, (fQ_is a0 63030 M)), some (0, (fQ_is a0 279109036 M)), some (0, (fQ_is a0 385495 M)), none, none], [], m260) _
                refine xEvG_n xml xfetch 2 (y := (117, if (fQ_is a0 63030 M) = 0 then 110 else 103, [some (13, a0), some (0, (fQ_is a0 63030 M)), some (0, (fQ_is a0 279109036 M)), some (0, (fQ_is a0 385495 M)), none, none], [], m260)) rfl trivial ?_
                refine xEvG_br xml xfetch (fun c_ => ?_) (fun c_ => ?_)
                · have h := xif_t c_ h
                  refine xEvG_n xml xfetch 2 (y := (117, if (fQ_is a0 279109036 M) = 0 then 121 else 114, [some (13, a0), some (0, (fQ_is a0 63030 M)), some (0, (fQ_is a0 279109036 M)), some (0, (fQ_is a0 385495 M)), none, none], [], m260)) rfl trivial ?_
                  refine xEvG_br xml xfetch (fun c_ => ?_) (fun c_ => ?_)
                  · have h := xif_t c_ h
                    refine xEvG_n xml xfetch 1 (y := (117, 122, [some (13, a0), some (0, (fQ_is a0 63030 M)), some (0, (fQ_is a0 279109036 M)), some (0, (fQ_is a0 385495 M)), none, none], [(13, a0)], m260)) rfl trivial ?_
                    obtain ⟨m261, e_, h⟩ := xB_t h
                    refine xEvG_call xml xfetch (q := (none, m261)) rfl (hQ_soupLine a0 m260 _ e_) ?_
                    show xEv (117, 125, [some (13, a0), some (0, (fQ_is a0 63030 M)), some (0, (fQ_is a0 279109036 M)), some (0, (fQ_is a0 385495 M)), none, none], [], m261) _
                    refine xEvG_n xml xfetch 1 (y := (117, 191, [some (13, a0), some (0, (fQ_is a0 63030 M)), some (0, (fQ_is a0 279109036 M)), some (0, (fQ_is a0 385495 M)), none, none], [], m261)) rfl trivial ?_
                    cases h
                    exact xEvG_ret xml xfetch rfl
                  · have h := xif_f c_ h
                    refine xEvG_n xml xfetch 1 (y := (117, 115, [some (13, a0), some (0, (fQ_is a0 63030 M)), some (0, (fQ_is a0 279109036 M)), some (0, (fQ_is a0 385495 M)), none, none], [(13, a0)], m260)) rfl trivial ?_
                    obtain ⟨m262, e_, h⟩ := xB_t h
                    refine xEvG_call xml xfetch (q := (none, m262)) rfl (hQ_sleepLine a0 m260 _ e_) ?_
                    show xEv (117, 118, [some (13, a0), some (0, (fQ_is a0 63030 M)), some (0, (fQ_is a0 279109036 M)), some (0, (fQ_is a0 385495 M)), none, none], [], m262) _
                    refine xEvG_n xml xfetch 1 (y := (117, 191, [some (13, a0), some (0, (fQ_is a0 63030 M)), some (0, (fQ_is a0 279109036 M)), some (0, (fQ_is a0 385495 M)), none, none], [], m262)) rfl trivial ?_
                    cases h
                    exact xEvG_ret xml xfetch rfl
                · have h := xif_f c_ h
                  refine xEvG_n xml xfetch 1 (y := (117, 104, [some (13, a0), some (0, (fQ_is a0 63030 M)), some (0, (fQ_is a0 279109036 M)), some (0, (fQ_is a0 385495 M)), none, none], [(13, a0)], m260)) rfl trivial ?_
                  obtain ⟨m263, e_, h⟩ := xB_t h
                  refine xEvG_call xml xfetch (q := (none, m263)) rfl (hQ_manLine a0 m260 _ e_) ?_
                  show xEv (117, 107, [some (13, a0), some (0, (fQ_is a0 63030 M)), some (0, (fQ_is a0 279109036 M)), some (0, (fQ_is a0 385495 M)), none, none], [], m263) _
                  refine xEvG_n xml xfetch 1 (y := (117, 191, [some (13, a0), some (0, (fQ_is a0 63030 M)), some (0, (fQ_is a0 279109036 M)), some (0, (fQ_is a0 385495 M)), none, none], [], m263)) rfl trivial ?_
                  cases h
                  exact xEvG_ret xml xfetch rfl
            · have h := xif_f c_ h
              cases h
              exact xEvG_ret xml xfetch rfl
          · have h := xif_f c_ h
            refine xEvG_n xml xfetch 2 (y := (117, 62, [some (13, a0), some (0, (fQ_is a0 63030 M)), some (0, (fQ_is a0 279109036 M)), some (0, (fQ_is a0 385495 M)), none, none], [(0, 6), (13, a0)], M)) rfl trivial ?_
            obtain ⟨v264, e_, h⟩ := xB_t h
            refine xEvG_call xml xfetch (q := (some (0, v264), M)) rfl (hQ_hasRead a0 6 M _ e_) ?_
            show xEv (117, 65, [some (13, a0), some (0, (fQ_is a0 63030 M)), some (0, (fQ_is a0 279109036 M)), some (0, (fQ_is a0 385495 M)), none, none], [(0, v264)], M) _
            refine xEvG_n xml xfetch 2 (y := (117, if v264 = 8 then 70 else 75, [some (13, a0), some (0, (fQ_is a0 63030 M)), some (0, (fQ_is a0 279109036 M)), some (0, (fQ_is a0 385495 M)), none, none], [], M)) rfl trivial ?_
            refine xEvG_br xml xfetch (fun c_ => ?_) (fun c_ => ?_)
            · have h := xif_t c_ h
              refine xEvG_n xml xfetch 2 (y := (117, 72, [some (13, a0), some (0, (fQ_is a0 63030 M)), some (0, (fQ_is a0 279109036 M)), some (0, (fQ_is a0 385495 M)), none, none], [(0, 3), (13, a0)], M)) rfl trivial ?_
              refine xEvG_call xml xfetch (q := (none, fQ_fails a0 3 M)) rfl (hQ_fails a0 3 M _ rfl) ?_
              show xEv (117, 75, [some (13, a0), some (0, (fQ_is a0 63030 M)), some (0, (fQ_is a0 279109036 M)), some (0, (fQ_is a0 385495 M)), none, none], [], (fQ_fails a0 3 M)) _
              refine xEvG_n xml xfetch 3 (y := (117, if ((fQ_fails a0 3 M) a0 12) = 0 then 83 else 82, [some (13, a0), some (0, (fQ_is a0 63030 M)), some (0, (fQ_is a0 279109036 M)), some (0, (fQ_is a0 385495 M)), none, none], [], (fQ_fails a0 3 M))) rfl trivial ?_
              refine xEvG_br xml xfetch (fun c_ => ?_) (fun c_ => ?_)
              · have h := xif_t c_ h
                refine xEvG_n xml xfetch 2 (y := (117, if (fQ_is a0 63030 M) = 0 then 87 else 95, [some (13, a0), some (0, (fQ_is a0 63030 M)), some (0, (fQ_is a0 279109036 M)), some (0, (fQ_is a0 385495 M)), none, none], [], (fQ_fails a0 3 M))) rfl trivial ?_
                refine xEvG_br xml xfetch (fun c_ => ?_) (fun c_ => ?_)
                · have h := xif_t c_ h
                  refine xEvG_n xml xfetch 2 (y := (117, if (fQ_is a0 279109036 M) = 0 then 91 else 95, [some (13, a0), some (0, (fQ_is a0 63030 M)), some (0, (fQ_is a0 279109036 M)), some (0, (fQ_is a0 385495 M)), none, none], [], (fQ_fails a0 3 M))) rfl trivial ?_
                  refine xEvG_br xml xfetch (fun c_ => ?_) (fun c_ => ?_)
                  · have h := xif_t c_ h
                    refine xEvG_n xml xfetch 2 (y := (117, if (fQ_is a0 385495 M) = 0 then 128 else 95, [some (13, a0), some (0, (fQ_is a0 63030 M)), some (0, (fQ_is a0 279109036 M)), some (0, (fQ_is a0 385495 M)), none, none], [], (fQ_fails a0 3 M))) rfl trivial ?_
                    refine xEvG_br xml xfetch (fun c_ => ?_) (fun c_ => ?_)
                    · have h := xif_t c_ h
                      refine xEvG_n xml xfetch 2 (y := (117, 132, [some (13, a0), some (0, (fQ_is a0 63030 M)), some (0, (fQ_is a0 279109036 M)), some (0, (fQ_is a0 385495 M)), none, none], [(1, 6888374364), (13, a0)], (fQ_fails a0 3 M))) rfl trivial ?_
                      obtain ⟨⟨v266, m266⟩, e_, h⟩ := xB_t h
                      refine xEvG_call xml xfetch (q := (some (0, v266), m266)) rfl (hQ_takes a0 6888374364 (fQ_fails a0 3 M) _ e_) ?_
                      show xEv (117, 135, [some (13, a0), some (0, (fQ_is a0 63030 M)), some (0, (fQ_is a0 279109036 M)), some (0, (fQ_is a0 385495 M)), none, none], [(0, v266)], m266) _
                      refine xEvG_n xml xfetch 1 (y := (117, if v266 = 0 then 145 else 138, [some (13, a0), some (0, (fQ_is a0 63030 M)), some (0, (fQ_is a0 279109036 M)), some (0, (fQ_is a0 385495 M)), none, none], [], m266)) rfl trivial ?_
                      refine xEvG_br xml xfetch (fun c_ => ?_) (fun c_ => ?_)
                      · have h := xif_t c_ h
                        refine xEvG_n xml xfetch 2 (y := (117, 149, [some (13, a0), some (0, (fQ_is a0 63030 M)), some (0, (fQ_is a0 279109036 M)), some (0, (fQ_is a0 385495 M)), none, none], [(1, 323717), (13, a0)], m266)) rfl trivial ?_
                        obtain ⟨m267, e_, h⟩ := xB_t h
                        refine xEvG_call xml xfetch (q := (none, m267)) rfl (hQ_asks a0 323717 m266 _ e_) ?_
                        show xEv (117, 152, [some (13, a0), some (0, (fQ_is a0 63030 M)), some (0, (fQ_is a0 279109036 M)), some (0, (fQ_is a0 385495 M)), none, none], [], m267) _
                        refine xEvG_n xml xfetch 4 (y := (117, 156, [some (13, a0), some (0, (fQ_is a0 63030 M)), some (0, (fQ_is a0 279109036 M)), some (0, (fQ_is a0 385495 M)), none, none], [(0, 1), (13, a0), (0, 0), (13, a0)], m267)) rfl trivial ?_
                        obtain ⟨v268, e_, h⟩ := xB_t h
                        refine xEvG_call xml xfetch (q := (some (0, v268), m267)) rfl (hQ_hasRead a0 1 m267 _ e_) ?_
                        show xEv (117, 159, [some (13, a0), some (0, (fQ_is a0 63030 M)), some (0, (fQ_is a0 279109036 M)), some (0, (fQ_is a0 385495 M)), none, none], [(0, v268), (0, 0), (13, a0)], m267) _
                        refine xEvG_n xml xfetch 2 (y := (117, 161, [some (13, a0), some (0, (fQ_is a0 63030 M)), some (0, (fQ_is a0 279109036 M)), some (0, (fQ_is a0 385495 M)), none, none], [(0, (xw32 (v268 - 1))), (0, 0), (13, a0)], m267)) rfl trivial ?_
                        obtain ⟨⟨v269, m269⟩, e_, h⟩ := xB_t h
                        refine xEvG_call xml xfetch (q := (some (0, v269), m269)) rfl (hQ_number2 a0 0 (xw32 (v268 - 1)) m267 _ e_) ?_
                        show xEv (117, 164, [some (13, a0), some (0, (fQ_is a0 63030 M)), some (0, (fQ_is a0 279109036 M)), some (0, (fQ_is a0 385495 M)), none, none], [(0, v269)], m269) _
                        refine xEvG_n xml xfetch 2 (y := (117, 167, [some (13, a0), some (0, (fQ_is a0 63030 M)), some (0, (fQ_is a0 279109036 M)), some (0, (fQ_is a0 385495 M)), some (0, v269), none], [(13, a0)], m269)) rfl trivial ?_
                        obtain ⟨⟨v270, m270⟩, e_, h⟩ := xB_t h
                        refine xEvG_call xml xfetch (q := (some (0, v270), m270)) rfl (hQ_cellHere a0 m269 _ e_) ?_
                        show xEv (117, 170, [some (13, a0), some (0, (fQ_is a0 63030 M)), some (0, (fQ_is a0 279109036 M)), some (0, (fQ_is a0 385495 M)), some (0, v269), none], [(0, v270)], m270) _
                        refine xEvG_n xml xfetch 2 (y := (117, 173, [some (13, a0), some (0, (fQ_is a0 63030 M)), some (0, (fQ_is a0 279109036 M)), some (0, (fQ_is a0 385495 M)), some (0, v269), some (0, v270)], [(13, a0)], m270)) rfl trivial ?_
                        refine xEvG_call xml xfetch (q := (some (0, fQ_isGood a0 m270), m270)) rfl (hQ_isGood a0 m270 _ rfl) ?_
                        show xEv (117, 176, [some (13, a0), some (0, (fQ_is a0 63030 M)), some (0, (fQ_is a0 279109036 M)), some (0, (fQ_is a0 385495 M)), some (0, v269), some (0, v270)], [(0, (fQ_isGood a0 m270))], m270) _
                        refine xEvG_n xml xfetch 1 (y := (117, if (fQ_isGood a0 m270) = 0 then 191 else 179, [some (13, a0), some (0, (fQ_is a0 63030 M)), some (0, (fQ_is a0 279109036 M)), some (0, (fQ_is a0 385495 M)), some (0, v269), some (0, v270)], [], m270)) rfl trivial ?_
                        refine xEvG_br xml xfetch (fun c_ => ?_) (fun c_ => ?_)
                        · have h := xif_t c_ h
                          cases h
                          exact xEvG_ret xml xfetch rfl
                        · have h := xif_f c_ h
                          have a0_ := (xA_t h).1
                          have h := (xA_t h).2
                          refine xEvG_n xml xfetch 7 (y := (117, 191, [some (13, a0), some (0, (fQ_is a0 63030 M)), some (0, (fQ_is a0 279109036 M)), some (0, (fQ_is a0 385495 M)), some (0, v269), some (0, v270)], [], (xwr m270 (a0 + 11) (xw32 (96 + v269)) v270))) rfl ⟨a0_, trivial⟩ ?_
                          cases h
                          exact xEvG_ret xml xfetch rfl
                      · have h := xif_f c_ h
                        refine xEvG_n xml xfetch 1 (y := (117, 139, [some (13, a0), some (0, (fQ_is a0 63030 M)), some (0, (fQ_is a0 279109036 M)), some (0, (fQ_is a0 385495 M)), none, none], [(13, a0)], m266)) rfl trivial ?_
                        obtain ⟨m272, e_, h⟩ := xB_t h
                        refine xEvG_call xml xfetch (q := (none, m272)) rfl (hQ_quarrelLine a0 m266 _ e_) ?_
                        show xEv (117, 142, [some (13, a0), some (0, (fQ_is a0 63030 M)), some (0, (fQ_is a0 279109036 M)), some (0, (fQ_is a0 385495 M)), none, none], [], m272) _
                        refine xEvG_n xml xfetch 1 (y := (117, 191, [some (13, a0), some (0, (fQ_is a0 63030 M)), some (0, (fQ_is a0 279109036 M)), some (0, (fQ_is a0 385495 M)), none, none], [], m272)) rfl trivial ?_
                        cases h
                        exact xEvG_ret xml xfetch rfl
                    · have h := xif_f c_ h
                      refine xEvG_n xml xfetch 1 (y := (117, 96, [some (13, a0), some (0, (fQ_is a0 63030 M)), some (0, (fQ_is a0 279109036 M)), some (0, (fQ_is a0 385495 M)), none, none], [(13, a0)], (fQ_fails a0 3 M))) rfl trivial ?_
                      obtain ⟨m273, e_, h⟩ := xB_t h
                      refine xEvG_call xml xfetch (q := (none, m273)) rfl (hQ_next a0 (fQ_fails a0 3 M) _ e_) ?_
                      show xEv (117, 99, [some (13, a0), some (0, (fQ_is a0 63030 M)), some (0, (fQ_is a0 279109036 M)), some (0, (fQ_is a0 385495 M)), none, none], [], m273) _
                      refine xEvG_n xml xfetch 2 (y := (117, if (fQ_is a0 63030 M) = 0 then 110 else 103, [some (13, a0), some (0, (fQ_is a0 63030 M)), some (0, (fQ_is a0 279109036 M)), some (0, (fQ_is a0 385495 M)), none, none], [], m273)) rfl trivial ?_
                      refine xEvG_br xml xfetch (fun c_ => ?_) (fun c_ => ?_)
                      · have h := xif_t c_ h
                        refine xEvG_n xml xfetch 2 (y := (117, if (fQ_is a0 279109036 M) = 0 then 121 else 114, [some (13, a0), some (0, (fQ_is a0 63030 M)), some (0, (fQ_is a0 279109036 M)), some (0, (fQ_is a0 385495 M)), none, none], [], m273)) rfl trivial ?_
                        refine xEvG_br xml xfetch (fun c_ => ?_) (fun c_ => ?_)
                        · have h := xif_t c_ h
                          refine xEvG_n xml xfetch 1 (y := (117, 122, [some (13, a0), some (0, (fQ_is a0 63030 M)), some (0, (fQ_is a0 279109036 M)), some (0, (fQ_is a0 385495 M)), none, none], [(13, a0)], m273)) rfl trivial ?_
                          obtain ⟨m274, e_, h⟩ := xB_t h
                          refine xEvG_call xml xfetch (q := (none, m274)) rfl (hQ_soupLine a0 m273 _ e_) ?_
                          show xEv (117, 125, [some (13, a0), some (0, (fQ_is a0 63030 M)), some (0, (fQ_is a0 279109036 M)), some (0, (fQ_is a0 385495 M)), none, none], [], m274) _
                          refine xEvG_n xml xfetch 1 (y := (117, 191, [some (13, a0), some (0, (fQ_is a0 63030 M)), some (0, (fQ_is a0 279109036 M)), some (0, (fQ_is a0 385495 M)), none, none], [], m274)) rfl trivial ?_
                          cases h
                          exact xEvG_ret xml xfetch rfl
                        · have h := xif_f c_ h
                          refine xEvG_n xml xfetch 1 (y := (117, 115, [some (13, a0), some (0, (fQ_is a0 63030 M)), some (0, (fQ_is a0 279109036 M)), some (0, (fQ_is a0 385495 M)), none, none], [(13, a0)], m273)) rfl trivial ?_
                          obtain ⟨m275, e_, h⟩ := xB_t h
                          refine xEvG_call xml xfetch (q := (none, m275)) rfl (hQ_sleepLine a0 m273 _ e_) ?_
                          show xEv (117, 118, [some (13, a0), some (0, (fQ_is a0 63030 M)), some (0, (fQ_is a0 279109036 M)), some (0, (fQ_is a0 385495 M)), none, none], [], m275) _
                          refine xEvG_n xml xfetch 1 (y := (117, 191, [some (13, a0), some (0, (fQ_is a0 63030 M)), some (0, (fQ_is a0 279109036 M)), some (0, (fQ_is a0 385495 M)), none, none], [], m275)) rfl trivial ?_
                          cases h
                          exact xEvG_ret xml xfetch rfl
                      · have h := xif_f c_ h
                        refine xEvG_n xml xfetch 1 (y := (117, 104, [some (13, a0), some (0, (fQ_is a0 63030 M)), some (0, (fQ_is a0 279109036 M)), some (0, (fQ_is a0 385495 M)), none, none], [(13, a0)], m273)) rfl trivial ?_
                        obtain ⟨m276, e_, h⟩ := xB_t h
                        refine xEvG_call xml xfetch (q := (none, m276)) rfl (hQ_manLine a0 m273 _ e_) ?_
                        show xEv (117, 107, [some (13, a0), some (0, (fQ_is a0 63030 M)), some (0, (fQ_is a0 279109036 M)), some (0, (fQ_is a0 385495 M)), none, none], [], m276) _
                        refine xEvG_n xml xfetch 1 (y := (117, 191, [some (13, a0), some (0, (fQ_is a0 63030 M)), some (0, (fQ_is a0 279109036 M)), some (0, (fQ_is a0 385495 M)), none, none], [], m276)) rfl trivial ?_
                        cases h
                        exact xEvG_ret xml xfetch rfl
                  · have h := xif_f c_ h
                    refine xEvG_n xml xfetch 1 (y := (117, 96, [some (13, a0), some (0, (fQ_is a0 63030 M)), some (0, (fQ_is a0 279109036 M)), some (0, (fQ_is a0 385495 M)), none, none], [(13, a0)], (fQ_fails a0 3 M))) rfl trivial ?_
                    obtain ⟨m277, e_, h⟩ := xB_t h
                    refine xEvG_call xml xfetch (q := (none, m277)) rfl (hQ_next a0 (fQ_fails a0 3 M) _ e_) ?_
                    show xEv (117, 99, [some (13, a0), some (0, (fQ_is a0 63030 M)), some (0, (fQ_is a0 279109036 M)), some (0, (fQ_is a0 385495 M)), none, none], [], m277) _
                    refine xEvG_n xml xfetch 2 (y := (117, if (fQ_is a0 63030 M) = 0 then 110 else 103, [some (13, a0), some (0, (fQ_is a0 63030 M)), some (0, (fQ_is a0 279109036 M)), some (0, (fQ_is a0 385495 M)), none, none], [], m277)) rfl trivial ?_
                    refine xEvG_br xml xfetch (fun c_ => ?_) (fun c_ => ?_)
                    · have h := xif_t c_ h
                      refine xEvG_n xml xfetch 2 (y := (117, if (fQ_is a0 279109036 M) = 0 then 121 else 114, [some (13, a0), some (0, (fQ_is a0 63030 M)), some (0, (fQ_is a0 279109036 M)), some (0, (fQ_is a0 385495 M)), none, none], [], m277)) rfl trivial ?_
                      refine xEvG_br xml xfetch (fun c_ => ?_) (fun c_ => ?_)
                      · have h := xif_t c_ h
                        refine xEvG_n xml xfetch 1 (y := (117, 122, [some (13, a0), some (0, (fQ_is a0 63030 M)), some (0, (fQ_is a0 279109036 M)), some (0, (fQ_is a0 385495 M)), none, none], [(13, a0)], m277)) rfl trivial ?_
                        obtain ⟨m278, e_, h⟩ := xB_t h
                        refine xEvG_call xml xfetch (q := (none, m278)) rfl (hQ_soupLine a0 m277 _ e_) ?_
                        show xEv (117, 125, [some (13, a0), some (0, (fQ_is a0 63030 M)), some (0, (fQ_is a0 279109036 M)), some (0, (fQ_is a0 385495 M)), none, none], [], m278) _
                        refine xEvG_n xml xfetch 1 (y := (117, 191, [some (13, a0), some (0, (fQ_is a0 63030 M)), some (0, (fQ_is a0 279109036 M)), some (0, (fQ_is a0 385495 M)), none, none], [], m278)) rfl trivial ?_
                        cases h
                        exact xEvG_ret xml xfetch rfl
                      · have h := xif_f c_ h
                        refine xEvG_n xml xfetch 1 (y := (117, 115, [some (13, a0), some (0, (fQ_is a0 63030 M)), some (0, (fQ_is a0 279109036 M)), some (0, (fQ_is a0 385495 M)), none, none], [(13, a0)], m277)) rfl trivial ?_
                        obtain ⟨m279, e_, h⟩ := xB_t h
                        refine xEvG_call xml xfetch (q := (none, m279)) rfl (hQ_sleepLine a0 m277 _ e_) ?_
                        show xEv (117, 118, [some (13, a0), some (0, (fQ_is a0 63030 M)), some (0, (fQ_is a0 279109036 M)), some (0, (fQ_is a0 385495 M)), none, none], [], m279) _
                        refine xEvG_n xml xfetch 1 (y := (117, 191, [some (13, a0), some (0, (fQ_is a0 63030 M)), some (0, (fQ_is a0 279109036 M)), some (0, (fQ_is a0 385495 M)), none, none], [], m279)) rfl trivial ?_
                        cases h
                        exact xEvG_ret xml xfetch rfl
                    · have h := xif_f c_ h
                      refine xEvG_n xml xfetch 1 (y := (117, 104, [some (13, a0), some (0, (fQ_is a0 63030 M)), some (0, (fQ_is a0 279109036 M)), some (0, (fQ_is a0 385495 M)), none, none], [(13, a0)], m277)) rfl trivial ?_
                      obtain ⟨m280, e_, h⟩ := xB_t h
                      refine xEvG_call xml xfetch (q := (none, m280)) rfl (hQ_manLine a0 m277 _ e_) ?_
                      show xEv (117, 107, [some (13, a0), some (0, (fQ_is a0 63030 M)), some (0, (fQ_is a0 279109036 M)), some (0, (fQ_is a0 385495 M)), none, none], [], m280) _
                      refine xEvG_n xml xfetch 1 (y := (117, 191, [some (13, a0), some (0, (fQ_is a0 63030 M)), some (0, (fQ_is a0 279109036 M)), some (0, (fQ_is a0 385495 M)), none, none], [], m280)) rfl trivial ?_
                      cases h
                      exact xEvG_ret xml xfetch rfl
                · have h := xif_f c_ h
                  refine xEvG_n xml xfetch 1 (y := (117, 96, [some (13, a0), some (0, (fQ_is a0 63030 M)), some (0, (fQ_is a0 279109036 M)), some (0, (fQ_is a0 385495 M)), none, none], [(13, a0)], (fQ_fails a0 3 M))) rfl trivial ?_
                  obtain ⟨m281, e_, h⟩ := xB_t h
                  refine xEvG_call xml xfetch (q := (none, m281)) rfl (hQ_next a0 (fQ_fails a0 3 M) _ e_) ?_
                  show xEv (117, 99, [some (13, a0), some (0, (fQ_is a0 63030 M)), some (0, (fQ_is a0 279109036 M)), some (0, (fQ_is a0 385495 M)), none, none], [], m281) _
                  refine xEvG_n xml xfetch 2 (y := (117, if (fQ_is a0 63030 M) = 0 then 110 else 103, [some (13, a0), some (0, (fQ_is a0 63030 M)), some (0, (fQ_is a0 279109036 M)), some (0, (fQ_is a0 385495 M)), none, none], [], m281)) rfl trivial ?_
                  refine xEvG_br xml xfetch (fun c_ => ?_) (fun c_ => ?_)
                  · have h := xif_t c_ h
                    refine xEvG_n xml xfetch 2 (y := (117, if (fQ_is a0 279109036 M) = 0 then 121 else 114, [some (13, a0), some (0, (fQ_is a0 63030 M)), some (0, (fQ_is a0 279109036 M)), some (0, (fQ_is a0 385495 M)), none, none], [], m281)) rfl trivial ?_
                    refine xEvG_br xml xfetch (fun c_ => ?_) (fun c_ => ?_)
                    · have h := xif_t c_ h
                      refine xEvG_n xml xfetch 1 (y := (117, 122, [some (13, a0), some (0, (fQ_is a0 63030 M)), some (0, (fQ_is a0 279109036 M)), some (0, (fQ_is a0 385495 M)), none, none], [(13, a0)], m281)) rfl trivial ?_
                      obtain ⟨m282, e_, h⟩ := xB_t h
                      refine xEvG_call xml xfetch (q := (none, m282)) rfl (hQ_soupLine a0 m281 _ e_) ?_
                      show xEv (117, 125, [some (13, a0), some (0, (fQ_is a0 63030 M)), some (0, (fQ_is a0 279109036 M)), some (0, (fQ_is a0 385495 M)), none, none], [], m282) _
                      refine xEvG_n xml xfetch 1 (y := (117, 191, [some (13, a0), some (0, (fQ_is a0 63030 M)), some (0, (fQ_is a0 279109036 M)), some (0, (fQ_is a0 385495 M)), none, none], [], m282)) rfl trivial ?_
                      cases h
                      exact xEvG_ret xml xfetch rfl
                    · have h := xif_f c_ h
                      refine xEvG_n xml xfetch 1 (y := (117, 115, [some (13, a0), some (0, (fQ_is a0 63030 M)), some (0, (fQ_is a0 279109036 M)), some (0, (fQ_is a0 385495 M)), none, none], [(13, a0)], m281)) rfl trivial ?_
                      obtain ⟨m283, e_, h⟩ := xB_t h
                      refine xEvG_call xml xfetch (q := (none, m283)) rfl (hQ_sleepLine a0 m281 _ e_) ?_
                      show xEv (117, 118, [some (13, a0), some (0, (fQ_is a0 63030 M)), some (0, (fQ_is a0 279109036 M)), some (0, (fQ_is a0 385495 M)), none, none], [], m283) _
                      refine xEvG_n xml xfetch 1 (y := (117, 191, [some (13, a0), some (0, (fQ_is a0 63030 M)), some (0, (fQ_is a0 279109036 M)), some (0, (fQ_is a0 385495 M)), none, none], [], m283)) rfl trivial ?_
                      cases h
                      exact xEvG_ret xml xfetch rfl
                  · have h := xif_f c_ h
                    refine xEvG_n xml xfetch 1 (y := (117, 104, [some (13, a0), some (0, (fQ_is a0 63030 M)), some (0, (fQ_is a0 279109036 M)), some (0, (fQ_is a0 385495 M)), none, none], [(13, a0)], m281)) rfl trivial ?_
                    obtain ⟨m284, e_, h⟩ := xB_t h
                    refine xEvG_call xml xfetch (q := (none, m284)) rfl (hQ_manLine a0 m281 _ e_) ?_
                    show xEv (117, 107, [some (13, a0), some (0, (fQ_is a0 63030 M)), some (0, (fQ_is a0 279109036 M)), some (0, (fQ_is a0 385495 M)), none, none], [], m284) _
                    refine xEvG_n xml xfetch 1 (y := (117, 191, [some (13, a0), some (0, (fQ_is a0 63030 M)), some (0, (fQ_is a0 279109036 M)), some (0, (fQ_is a0 385495 M)), none, none], [], m284)) rfl trivial ?_
                    cases h
                    exact xEvG_ret xml xfetch rfl
              · have h := xif_f c_ h
                cases h
                exact xEvG_ret xml xfetch rfl
            · have h := xif_f c_ h
              refine xEvG_n xml xfetch 3 (y := (117, if (M a0 12) = 0 then 83 else 82, [some (13, a0), some (0, (fQ_is a0 63030 M)), some (0, (fQ_is a0 279109036 M)), some (0, (fQ_is a0 385495 M)), none, none], [], M)) rfl trivial ?_
              refine xEvG_br xml xfetch (fun c_ => ?_) (fun c_ => ?_)
              · have h := xif_t c_ h
                refine xEvG_n xml xfetch 2 (y := (117, if (fQ_is a0 63030 M) = 0 then 87 else 95, [some (13, a0), some (0, (fQ_is a0 63030 M)), some (0, (fQ_is a0 279109036 M)), some (0, (fQ_is a0 385495 M)), none, none], [], M)) rfl trivial ?_
                refine xEvG_br xml xfetch (fun c_ => ?_) (fun c_ => ?_)
                · have h := xif_t c_ h
                  refine xEvG_n xml xfetch 2 (y := (117, if (fQ_is a0 279109036 M) = 0 then 91 else 95, [some (13, a0), some (0, (fQ_is a0 63030 M)), some (0, (fQ_is a0 279109036 M)), some (0, (fQ_is a0 385495 M)), none, none], [], M)) rfl trivial ?_
                  refine xEvG_br xml xfetch (fun c_ => ?_) (fun c_ => ?_)
                  · have h := xif_t c_ h
                    refine xEvG_n xml xfetch 2 (y := (117, if (fQ_is a0 385495 M) = 0 then 128 else 95, [some (13, a0), some (0, (fQ_is a0 63030 M)), some (0, (fQ_is a0 279109036 M)), some (0, (fQ_is a0 385495 M)), none, none], [], M)) rfl trivial ?_
                    refine xEvG_br xml xfetch (fun c_ => ?_) (fun c_ => ?_)
                    · have h := xif_t c_ h
                      refine xEvG_n xml xfetch 2 (y := (117, 132, [some (13, a0), some (0, (fQ_is a0 63030 M)), some (0, (fQ_is a0 279109036 M)), some (0, (fQ_is a0 385495 M)), none, none], [(1, 6888374364), (13, a0)], M)) rfl trivial ?_
                      obtain ⟨⟨v285, m285⟩, e_, h⟩ := xB_t h
                      refine xEvG_call xml xfetch (q := (some (0, v285), m285)) rfl (hQ_takes a0 6888374364 M _ e_) ?_
                      show xEv (117, 135, [some (13, a0), some (0, (fQ_is a0 63030 M)), some (0, (fQ_is a0 279109036 M)), some (0, (fQ_is a0 385495 M)), none, none], [(0, v285)], m285) _
                      refine xEvG_n xml xfetch 1 (y := (117, if v285 = 0 then 145 else 138, [some (13, a0), some (0, (fQ_is a0 63030 M)), some (0, (fQ_is a0 279109036 M)), some (0, (fQ_is a0 385495 M)), none, none], [], m285)) rfl trivial ?_
                      refine xEvG_br xml xfetch (fun c_ => ?_) (fun c_ => ?_)
                      · have h := xif_t c_ h
                        refine xEvG_n xml xfetch 2 (y := (117, 149, [some (13, a0), some (0, (fQ_is a0 63030 M)), some (0, (fQ_is a0 279109036 M)), some (0, (fQ_is a0 385495 M)), none, none], [(1, 323717), (13, a0)], m285)) rfl trivial ?_
                        obtain ⟨m286, e_, h⟩ := xB_t h
                        refine xEvG_call xml xfetch (q := (none, m286)) rfl (hQ_asks a0 323717 m285 _ e_) ?_
                        show xEv (117, 152, [some (13, a0), some (0, (fQ_is a0 63030 M)), some (0, (fQ_is a0 279109036 M)), some (0, (fQ_is a0 385495 M)), none, none], [], m286) _
                        refine xEvG_n xml xfetch 4 (y := (117, 156, [some (13, a0), some (0, (fQ_is a0 63030 M)), some (0, (fQ_is a0 279109036 M)), some (0, (fQ_is a0 385495 M)), none, none], [(0, 1), (13, a0), (0, 0), (13, a0)], m286)) rfl trivial ?_
                        obtain ⟨v287, e_, h⟩ := xB_t h
                        refine xEvG_call xml xfetch (q := (some (0, v287), m286)) rfl (hQ_hasRead a0 1 m286 _ e_) ?_
                        show xEv (117, 159, [some (13, a0), some (0, (fQ_is a0 63030 M)), some (0, (fQ_is a0 279109036 M)), some (0, (fQ_is a0 385495 M)), none, none], [(0, v287), (0, 0), (13, a0)], m286) _
                        refine xEvG_n xml xfetch 2 (y := (117, 161, [some (13, a0), some (0, (fQ_is a0 63030 M)), some (0, (fQ_is a0 279109036 M)), some (0, (fQ_is a0 385495 M)), none, none], [(0, (xw32 (v287 - 1))), (0, 0), (13, a0)], m286)) rfl trivial ?_
                        obtain ⟨⟨v288, m288⟩, e_, h⟩ := xB_t h
                        refine xEvG_call xml xfetch (q := (some (0, v288), m288)) rfl (hQ_number2 a0 0 (xw32 (v287 - 1)) m286 _ e_) ?_
                        show xEv (117, 164, [some (13, a0), some (0, (fQ_is a0 63030 M)), some (0, (fQ_is a0 279109036 M)), some (0, (fQ_is a0 385495 M)), none, none], [(0, v288)], m288) _
                        refine xEvG_n xml xfetch 2 (y := (117, 167, [some (13, a0), some (0, (fQ_is a0 63030 M)), some (0, (fQ_is a0 279109036 M)), some (0, (fQ_is a0 385495 M)), some (0, v288), none], [(13, a0)], m288)) rfl trivial ?_
                        obtain ⟨⟨v289, m289⟩, e_, h⟩ := xB_t h
                        refine xEvG_call xml xfetch (q := (some (0, v289), m289)) rfl (hQ_cellHere a0 m288 _ e_) ?_
                        show xEv (117, 170, [some (13, a0), some (0, (fQ_is a0 63030 M)), some (0, (fQ_is a0 279109036 M)), some (0, (fQ_is a0 385495 M)), some (0, v288), none], [(0, v289)], m289) _
                        refine xEvG_n xml xfetch 2 (y := (117, 173, [some (13, a0), some (0, (fQ_is a0 63030 M)), some (0, (fQ_is a0 279109036 M)), some (0, (fQ_is a0 385495 M)), some (0, v288), some (0, v289)], [(13, a0)], m289)) rfl trivial ?_
                        refine xEvG_call xml xfetch (q := (some (0, fQ_isGood a0 m289), m289)) rfl (hQ_isGood a0 m289 _ rfl) ?_
                        show xEv (117, 176, [some (13, a0), some (0, (fQ_is a0 63030 M)), some (0, (fQ_is a0 279109036 M)), some (0, (fQ_is a0 385495 M)), some (0, v288), some (0, v289)], [(0, (fQ_isGood a0 m289))], m289) _
                        refine xEvG_n xml xfetch 1 (y := (117, if (fQ_isGood a0 m289) = 0 then 191 else 179, [some (13, a0), some (0, (fQ_is a0 63030 M)), some (0, (fQ_is a0 279109036 M)), some (0, (fQ_is a0 385495 M)), some (0, v288), some (0, v289)], [], m289)) rfl trivial ?_
                        refine xEvG_br xml xfetch (fun c_ => ?_) (fun c_ => ?_)
                        · have h := xif_t c_ h
                          cases h
                          exact xEvG_ret xml xfetch rfl
                        · have h := xif_f c_ h
                          have a0_ := (xA_t h).1
                          have h := (xA_t h).2
                          refine xEvG_n xml xfetch 7 (y := (117, 191, [some (13, a0), some (0, (fQ_is a0 63030 M)), some (0, (fQ_is a0 279109036 M)), some (0, (fQ_is a0 385495 M)), some (0, v288), some (0, v289)], [], (xwr m289 (a0 + 11) (xw32 (96 + v288)) v289))) rfl ⟨a0_, trivial⟩ ?_
                          cases h
                          exact xEvG_ret xml xfetch rfl
                      · have h := xif_f c_ h
                        refine xEvG_n xml xfetch 1 (y := (117, 139, [some (13, a0), some (0, (fQ_is a0 63030 M)), some (0, (fQ_is a0 279109036 M)), some (0, (fQ_is a0 385495 M)), none, none], [(13, a0)], m285)) rfl trivial ?_
                        obtain ⟨m291, e_, h⟩ := xB_t h
                        refine xEvG_call xml xfetch (q := (none, m291)) rfl (hQ_quarrelLine a0 m285 _ e_) ?_
                        show xEv (117, 142, [some (13, a0), some (0, (fQ_is a0 63030 M)), some (0, (fQ_is a0 279109036 M)), some (0, (fQ_is a0 385495 M)), none, none], [], m291) _
                        refine xEvG_n xml xfetch 1 (y := (117, 191, [some (13, a0), some (0, (fQ_is a0 63030 M)), some (0, (fQ_is a0 279109036 M)), some (0, (fQ_is a0 385495 M)), none, none], [], m291)) rfl trivial ?_
                        cases h
                        exact xEvG_ret xml xfetch rfl
                    · have h := xif_f c_ h
                      refine xEvG_n xml xfetch 1 (y := (117, 96, [some (13, a0), some (0, (fQ_is a0 63030 M)), some (0, (fQ_is a0 279109036 M)), some (0, (fQ_is a0 385495 M)), none, none], [(13, a0)], M)) rfl trivial ?_
                      obtain ⟨m292, e_, h⟩ := xB_t h
                      refine xEvG_call xml xfetch (q := (none, m292)) rfl (hQ_next a0 M _ e_) ?_
                      show xEv (117, 99, [some (13, a0), some (0, (fQ_is a0 63030 M)), some (0, (fQ_is a0 279109036 M)), some (0, (fQ_is a0 385495 M)), none, none], [], m292) _
                      refine xEvG_n xml xfetch 2 (y := (117, if (fQ_is a0 63030 M) = 0 then 110 else 103, [some (13, a0), some (0, (fQ_is a0 63030 M)), some (0, (fQ_is a0 279109036 M)), some (0, (fQ_is a0 385495 M)), none, none], [], m292)) rfl trivial ?_
                      refine xEvG_br xml xfetch (fun c_ => ?_) (fun c_ => ?_)
                      · have h := xif_t c_ h
                        refine xEvG_n xml xfetch 2 (y := (117, if (fQ_is a0 279109036 M) = 0 then 121 else 114, [some (13, a0), some (0, (fQ_is a0 63030 M)), some (0, (fQ_is a0 279109036 M)), some (0, (fQ_is a0 385495 M)), none, none], [], m292)) rfl trivial ?_
                        refine xEvG_br xml xfetch (fun c_ => ?_) (fun c_ => ?_)
                        · have h := xif_t c_ h
                          refine xEvG_n xml xfetch 1 (y := (117, 122, [some (13, a0), some (0, (fQ_is a0 63030 M)), some (0, (fQ_is a0 279109036 M)), some (0, (fQ_is a0 385495 M)), none, none], [(13, a0)], m292)) rfl trivial ?_
                          obtain ⟨m293, e_, h⟩ := xB_t h
                          refine xEvG_call xml xfetch (q := (none, m293)) rfl (hQ_soupLine a0 m292 _ e_) ?_
                          show xEv (117, 125, [some (13, a0), some (0, (fQ_is a0 63030 M)), some (0, (fQ_is a0 279109036 M)), some (0, (fQ_is a0 385495 M)), none, none], [], m293) _
                          refine xEvG_n xml xfetch 1 (y := (117, 191, [some (13, a0), some (0, (fQ_is a0 63030 M)), some (0, (fQ_is a0 279109036 M)), some (0, (fQ_is a0 385495 M)), none, none], [], m293)) rfl trivial ?_
                          cases h
                          exact xEvG_ret xml xfetch rfl
                        · have h := xif_f c_ h
                          refine xEvG_n xml xfetch 1 (y := (117, 115, [some (13, a0), some (0, (fQ_is a0 63030 M)), some (0, (fQ_is a0 279109036 M)), some (0, (fQ_is a0 385495 M)), none, none], [(13, a0)], m292)) rfl trivial ?_
                          obtain ⟨m294, e_, h⟩ := xB_t h
                          refine xEvG_call xml xfetch (q := (none, m294)) rfl (hQ_sleepLine a0 m292 _ e_) ?_
                          show xEv (117, 118, [some (13, a0), some (0, (fQ_is a0 63030 M)), some (0, (fQ_is a0 279109036 M)), some (0, (fQ_is a0 385495 M)), none, none], [], m294) _
                          refine xEvG_n xml xfetch 1 (y := (117, 191, [some (13, a0), some (0, (fQ_is a0 63030 M)), some (0, (fQ_is a0 279109036 M)), some (0, (fQ_is a0 385495 M)), none, none], [], m294)) rfl trivial ?_
                          cases h
                          exact xEvG_ret xml xfetch rfl
                      · have h := xif_f c_ h
                        refine xEvG_n xml xfetch 1 (y := (117, 104, [some (13, a0), some (0, (fQ_is a0 63030 M)), some (0, (fQ_is a0 279109036 M)), some (0, (fQ_is a0 385495 M)), none, none], [(13, a0)], m292)) rfl trivial ?_
                        obtain ⟨m295, e_, h⟩ := xB_t h
                        refine xEvG_call xml xfetch (q := (none, m295)) rfl (hQ_manLine a0 m292 _ e_) ?_
                        show xEv (117, 107, [some (13, a0), some (0, (fQ_is a0 63030 M)), some (0, (fQ_is a0 279109036 M)), some (0, (fQ_is a0 385495 M)), none, none], [], m295) _
                        refine xEvG_n xml xfetch 1 (y := (117, 191, [some (13, a0), some (0, (fQ_is a0 63030 M)), some (0, (fQ_is a0 279109036 M)), some (0, (fQ_is a0 385495 M)), none, none], [], m295)) rfl trivial ?_
                        cases h
                        exact xEvG_ret xml xfetch rfl
                  · have h := xif_f c_ h
                    refine xEvG_n xml xfetch 1 (y := (117, 96, [some (13, a0), some (0, (fQ_is a0 63030 M)), some (0, (fQ_is a0 279109036 M)), some (0, (fQ_is a0 385495 M)), none, none], [(13, a0)], M)) rfl trivial ?_
                    obtain ⟨m296, e_, h⟩ := xB_t h
                    refine xEvG_call xml xfetch (q := (none, m296)) rfl (hQ_next a0 M _ e_) ?_
                    show xEv (117, 99, [some (13, a0), some (0, (fQ_is a0 63030 M)), some (0, (fQ_is a0 279109036 M)), some (0, (fQ_is a0 385495 M)), none, none], [], m296) _
                    refine xEvG_n xml xfetch 2 (y := (117, if (fQ_is a0 63030 M) = 0 then 110 else 103, [some (13, a0), some (0, (fQ_is a0 63030 M)), some (0, (fQ_is a0 279109036 M)), some (0, (fQ_is a0 385495 M)), none, none], [], m296)) rfl trivial ?_
                    refine xEvG_br xml xfetch (fun c_ => ?_) (fun c_ => ?_)
                    · have h := xif_t c_ h
                      refine xEvG_n xml xfetch 2 (y := (117, if (fQ_is a0 279109036 M) = 0 then 121 else 114, [some (13, a0), some (0, (fQ_is a0 63030 M)), some (0, (fQ_is a0 279109036 M)), some (0, (fQ_is a0 385495 M)), none, none], [], m296)) rfl trivial ?_
                      refine xEvG_br xml xfetch (fun c_ => ?_) (fun c_ => ?_)
                      · have h := xif_t c_ h
                        refine xEvG_n xml xfetch 1 (y := (117, 122, [some (13, a0), some (0, (fQ_is a0 63030 M)), some (0, (fQ_is a0 279109036 M)), some (0, (fQ_is a0 385495 M)), none, none], [(13, a0)], m296)) rfl trivial ?_
                        obtain ⟨m297, e_, h⟩ := xB_t h
                        refine xEvG_call xml xfetch (q := (none, m297)) rfl (hQ_soupLine a0 m296 _ e_) ?_
                        show xEv (117, 125, [some (13, a0), some (0, (fQ_is a0 63030 M)), some (0, (fQ_is a0 279109036 M)), some (0, (fQ_is a0 385495 M)), none, none], [], m297) _
                        refine xEvG_n xml xfetch 1 (y := (117, 191, [some (13, a0), some (0, (fQ_is a0 63030 M)), some (0, (fQ_is a0 279109036 M)), some (0, (fQ_is a0 385495 M)), none, none], [], m297)) rfl trivial ?_
                        cases h
                        exact xEvG_ret xml xfetch rfl
                      · have h := xif_f c_ h
                        refine xEvG_n xml xfetch 1 (y := (117, 115, [some (13, a0), some (0, (fQ_is a0 63030 M)), some (0, (fQ_is a0 279109036 M)), some (0, (fQ_is a0 385495 M)), none, none], [(13, a0)], m296)) rfl trivial ?_
                        obtain ⟨m298, e_, h⟩ := xB_t h
                        refine xEvG_call xml xfetch (q := (none, m298)) rfl (hQ_sleepLine a0 m296 _ e_) ?_
                        show xEv (117, 118, [some (13, a0), some (0, (fQ_is a0 63030 M)), some (0, (fQ_is a0 279109036 M)), some (0, (fQ_is a0 385495 M)), none, none], [], m298) _
                        refine xEvG_n xml xfetch 1 (y := (117, 191, [some (13, a0), some (0, (fQ_is a0 63030 M)), some (0, (fQ_is a0 279109036 M)), some (0, (fQ_is a0 385495 M)), none, none], [], m298)) rfl trivial ?_
                        cases h
                        exact xEvG_ret xml xfetch rfl
                    · have h := xif_f c_ h
                      refine xEvG_n xml xfetch 1 (y := (117, 104, [some (13, a0), some (0, (fQ_is a0 63030 M)), some (0, (fQ_is a0 279109036 M)), some (0, (fQ_is a0 385495 M)), none, none], [(13, a0)], m296)) rfl trivial ?_
                      obtain ⟨m299, e_, h⟩ := xB_t h
                      refine xEvG_call xml xfetch (q := (none, m299)) rfl (hQ_manLine a0 m296 _ e_) ?_
                      show xEv (117, 107, [some (13, a0), some (0, (fQ_is a0 63030 M)), some (0, (fQ_is a0 279109036 M)), some (0, (fQ_is a0 385495 M)), none, none], [], m299) _
                      refine xEvG_n xml xfetch 1 (y := (117, 191, [some (13, a0), some (0, (fQ_is a0 63030 M)), some (0, (fQ_is a0 279109036 M)), some (0, (fQ_is a0 385495 M)), none, none], [], m299)) rfl trivial ?_
                      cases h
                      exact xEvG_ret xml xfetch rfl
                · have h := xif_f c_ h
                  refine xEvG_n xml xfetch 1 (y := (117, 96, [some (13, a0), some (0, (fQ_is a0 63030 M)), some (0, (fQ_is a0 279109036 M)), some (0, (fQ_is a0 385495 M)), none, none], [(13, a0)], M)) rfl trivial ?_
                  obtain ⟨m300, e_, h⟩ := xB_t h
                  refine xEvG_call xml xfetch (q := (none, m300)) rfl (hQ_next a0 M _ e_) ?_
                  show xEv (117, 99, [some (13, a0), some (0, (fQ_is a0 63030 M)), some (0, (fQ_is a0 279109036 M)), some (0, (fQ_is a0 385495 M)), none, none], [], m300) _
                  refine xEvG_n xml xfetch 2 (y := (117, if (fQ_is a0 63030 M) = 0 then 110 else 103, [some (13, a0), some (0, (fQ_is a0 63030 M)), some (0, (fQ_is a0 279109036 M)), some (0, (fQ_is a0 385495 M)), none, none], [], m300)) rfl trivial ?_
                  refine xEvG_br xml xfetch (fun c_ => ?_) (fun c_ => ?_)
                  · have h := xif_t c_ h
                    refine xEvG_n xml xfetch 2 (y := (117, if (fQ_is a0 279109036 M) = 0 then 121 else 114, [some (13, a0), some (0, (fQ_is a0 63030 M)), some (0, (fQ_is a0 279109036 M)), some (0, (fQ_is a0 385495 M)), none, none], [], m300)) rfl trivial ?_
                    refine xEvG_br xml xfetch (fun c_ => ?_) (fun c_ => ?_)
                    · have h := xif_t c_ h
                      refine xEvG_n xml xfetch 1 (y := (117, 122, [some (13, a0), some (0, (fQ_is a0 63030 M)), some (0, (fQ_is a0 279109036 M)), some (0, (fQ_is a0 385495 M)), none, none], [(13, a0)], m300)) rfl trivial ?_
                      obtain ⟨m301, e_, h⟩ := xB_t h
                      refine xEvG_call xml xfetch (q := (none, m301)) rfl (hQ_soupLine a0 m300 _ e_) ?_
                      show xEv (117, 125, [some (13, a0), some (0, (fQ_is a0 63030 M)), some (0, (fQ_is a0 279109036 M)), some (0, (fQ_is a0 385495 M)), none, none], [], m301) _
                      refine xEvG_n xml xfetch 1 (y := (117, 191, [some (13, a0), some (0, (fQ_is a0 63030 M)), some (0, (fQ_is a0 279109036 M)), some (0, (fQ_is a0 385495 M)), none, none], [], m301)) rfl trivial ?_
                      cases h
                      exact xEvG_ret xml xfetch rfl
                    · have h := xif_f c_ h
                      refine xEvG_n xml xfetch 1 (y := (117, 115, [some (13, a0), some (0, (fQ_is a0 63030 M)), some (0, (fQ_is a0 279109036 M)), some (0, (fQ_is a0 385495 M)), none, none], [(13, a0)], m300)) rfl trivial ?_
                      obtain ⟨m302, e_, h⟩ := xB_t h
                      refine xEvG_call xml xfetch (q := (none, m302)) rfl (hQ_sleepLine a0 m300 _ e_) ?_
                      show xEv (117, 118, [some (13, a0), some (0, (fQ_is a0 63030 M)), some (0, (fQ_is a0 279109036 M)), some (0, (fQ_is a0 385495 M)), none, none], [], m302) _
                      refine xEvG_n xml xfetch 1 (y := (117, 191, [some (13, a0), some (0, (fQ_is a0 63030 M)), some (0, (fQ_is a0 279109036 M)), some (0, (fQ_is a0 385495 M)), none, none], [], m302)) rfl trivial ?_
                      cases h
                      exact xEvG_ret xml xfetch rfl
                  · have h := xif_f c_ h
                    refine xEvG_n xml xfetch 1 (y := (117, 104, [some (13, a0), some (0, (fQ_is a0 63030 M)), some (0, (fQ_is a0 279109036 M)), some (0, (fQ_is a0 385495 M)), none, none], [(13, a0)], m300)) rfl trivial ?_
                    obtain ⟨m303, e_, h⟩ := xB_t h
                    refine xEvG_call xml xfetch (q := (none, m303)) rfl (hQ_manLine a0 m300 _ e_) ?_
                    show xEv (117, 107, [some (13, a0), some (0, (fQ_is a0 63030 M)), some (0, (fQ_is a0 279109036 M)), some (0, (fQ_is a0 385495 M)), none, none], [], m303) _
                    refine xEvG_n xml xfetch 1 (y := (117, 191, [some (13, a0), some (0, (fQ_is a0 63030 M)), some (0, (fQ_is a0 279109036 M)), some (0, (fQ_is a0 385495 M)), none, none], [], m303)) rfl trivial ?_
                    cases h
                    exact xEvG_ret xml xfetch rfl
              · have h := xif_f c_ h
                cases h
                exact xEvG_ret xml xfetch rfl

end
