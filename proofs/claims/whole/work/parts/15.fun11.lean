/-! the methods as functions, each with its proof (printed by wip/tools/fgen.py) -/
noncomputable section
/-- ConsentDoorsModel.forged(I)I -/
def fQ_forged (a0 a1 : Int) (M : xM) : Option (Int × xM) := xB (fQ_whyNot a0 a1 1 (xwr M a0 0 0)) (fun v1 => if v1 = 0 then (xB (fQ_asTold a0 (xwr M a0 0 0)) (fun m2 => xB (fQ_forgedOf a0 a1 (-1) m2) (fun v3 => some (v3, m2)))) else (some (v1, (xwr M a0 0 0))))
theorem hQ_forged (a0 a1 : Int) (M : xM) (r : Int × xM) (h : fQ_forged a0 a1 M = some r) : xEv (211, 0, [some (13, a0), some (0, a1), none], [], M) (some (0, r.1), r.2) := by
  unfold fQ_forged at h
  refine xEvG_n xml xfetch 6 (y := (211, 8, [some (13, a0), some (0, a1), none], [(0, 1), (0, a1), (13, a0)], (xwr M a0 0 0))) rfl trivial ?_
  obtain ⟨v1, e_, h⟩ := xB_t h
  refine xEvG_call xml xfetch (q := (some (0, v1), (xwr M a0 0 0))) rfl (hQ_whyNot a0 a1 1 (xwr M a0 0 0) _ e_) ?_
  show xEv (211, 11, [some (13, a0), some (0, a1), none], [(0, v1)], (xwr M a0 0 0)) _
  refine xEvG_n xml xfetch 3 (y := (211, if v1 = 0 then 18 else 16, [some (13, a0), some (0, a1), some (0, v1)], [], (xwr M a0 0 0))) rfl trivial ?_
  refine xEvG_br xml xfetch (fun c_ => ?_) (fun c_ => ?_)
  · have h := xif_t c_ h
    refine xEvG_n xml xfetch 1 (y := (211, 19, [some (13, a0), some (0, a1), some (0, v1)], [(13, a0)], (xwr M a0 0 0))) rfl trivial ?_
    obtain ⟨m2, e_, h⟩ := xB_t h
    refine xEvG_call xml xfetch (q := (none, m2)) rfl (hQ_asTold a0 (xwr M a0 0 0) _ e_) ?_
    show xEv (211, 22, [some (13, a0), some (0, a1), some (0, v1)], [], m2) _
    refine xEvG_n xml xfetch 3 (y := (211, 25, [some (13, a0), some (0, a1), some (0, v1)], [(0, (-1)), (0, a1), (13, a0)], m2)) rfl trivial ?_
    obtain ⟨v3, e_, h⟩ := xB_t h
    refine xEvG_call xml xfetch (q := (some (0, v3), m2)) rfl (hQ_forgedOf a0 a1 (-1) m2 _ e_) ?_
    show xEv (211, 28, [some (13, a0), some (0, a1), some (0, v1)], [(0, v3)], m2) _
    cases h
    exact xEvG_ret xml xfetch rfl
  · have h := xif_f c_ h
    refine xEvG_n xml xfetch 1 (y := (211, 17, [some (13, a0), some (0, a1), some (0, v1)], [(0, v1)], (xwr M a0 0 0))) rfl trivial ?_
    cases h
    exact xEvG_ret xml xfetch rfl

def fQ_forger_L30 : Nat → Int → Int → Int → Int → Int → xM → Option (Int × xM)
  | 0, _, _, _, _, _, _ => none
  | g + 1, x0, x1, x3, x4, x5, M => if x5 < (M (x0 + 7) 0) then (xB (fQ_forgedOf x0 x1 x5 M) (fun v3 => if x4 < v3 then ((fQ_forger_L30 g) x0 x1 x5 v3 (xw32 (x5 + 1)) M) else ((fQ_forger_L30 g) x0 x1 x3 x4 (xw32 (x5 + 1)) M))) else (some (x3, M))
theorem hQ_forger_L30 : ∀ (g : Nat) (x0 x1 x3 x4 x5 : Int) (M : xM) (r : Int × xM) (h : fQ_forger_L30 g x0 x1 x3 x4 x5 M = some r), xEv (212, 30, [some (13, x0), some (0, x1), none, some (0, x3), some (0, x4), some (0, x5), none], [], M) (some (0, r.1), r.2)
  | 0, _, _, _, _, _, _, _, h => by cases h
  | g + 1, x0, x1, x3, x4, x5, M, r, h => by
    unfold fQ_forger_L30 at h
    refine xEvG_n xml xfetch 6 (y := (212, if x5 < (M (x0 + 7) 0) then 41 else 73, [some (13, x0), some (0, x1), none, some (0, x3), some (0, x4), some (0, x5), none], [], M)) rfl ⟨by decide, trivial⟩ ?_
    refine xEvG_br xml xfetch (fun c_ => ?_) (fun c_ => ?_)
    · have h := xif_t c_ h
      refine xEvG_n xml xfetch 3 (y := (212, 45, [some (13, x0), some (0, x1), none, some (0, x3), some (0, x4), some (0, x5), none], [(0, x5), (0, x1), (13, x0)], M)) rfl trivial ?_
      obtain ⟨v3, e_, h⟩ := xB_t h
      refine xEvG_call xml xfetch (q := (some (0, v3), M)) rfl (hQ_forgedOf x0 x1 x5 M _ e_) ?_
      show xEv (212, 48, [some (13, x0), some (0, x1), none, some (0, x3), some (0, x4), some (0, x5), none], [(0, v3)], M) _
      refine xEvG_n xml xfetch 4 (y := (212, if x4 < v3 then 60 else 57, [some (13, x0), some (0, x1), none, some (0, x3), some (0, x4), some (0, x5), some (0, v3)], [], M)) rfl trivial ?_
      refine xEvG_br xml xfetch (fun c_ => ?_) (fun c_ => ?_)
      · have h := xif_t c_ h
        refine xEvG_n xml xfetch 6 (y := (212, 30, [some (13, x0), some (0, x1), none, some (0, x5), some (0, v3), some (0, (xw32 (x5 + 1))), some (0, v3)], [], M)) rfl trivial ?_
        refine xEvG_mask xml xfetch [true, true, false, true, true, true, false] ?_
        exact (hQ_forger_L30 g) x0 x1 x5 v3 (xw32 (x5 + 1)) M _ h
      · have h := xif_f c_ h
        refine xEvG_n xml xfetch 3 (y := (212, 30, [some (13, x0), some (0, x1), none, some (0, x3), some (0, x4), some (0, (xw32 (x5 + 1))), some (0, v3)], [], M)) rfl trivial ?_
        refine xEvG_mask xml xfetch [true, true, false, true, true, true, false] ?_
        exact (hQ_forger_L30 g) x0 x1 x3 x4 (xw32 (x5 + 1)) M _ h
    · have h := xif_f c_ h
      refine xEvG_n xml xfetch 1 (y := (212, 74, [some (13, x0), some (0, x1), none, some (0, x3), some (0, x4), some (0, x5), none], [(0, x3)], M)) rfl trivial ?_
      cases h
      exact xEvG_ret xml xfetch rfl
/-- ConsentDoorsModel.forger(I)I -/
def fQ_forger (a0 a1 : Int) (M : xM) : Option (Int × xM) := xB (fQ_whyNot a0 a1 1 (xwr M a0 0 0)) (fun v1 => if v1 = 0 then (xB (fQ_asTold a0 (xwr M a0 0 0)) (fun m2 => fQ_forger_L30 20001 a0 a1 (-1) 0 0 m2)) else (some (v1, (xwr M a0 0 0))))
theorem hQ_forger (a0 a1 : Int) (M : xM) (r : Int × xM) (h : fQ_forger a0 a1 M = some r) : xEv (212, 0, [some (13, a0), some (0, a1), none, none, none, none, none], [], M) (some (0, r.1), r.2) := by
  unfold fQ_forger at h
  refine xEvG_n xml xfetch 6 (y := (212, 8, [some (13, a0), some (0, a1), none, none, none, none, none], [(0, 1), (0, a1), (13, a0)], (xwr M a0 0 0))) rfl trivial ?_
  obtain ⟨v1, e_, h⟩ := xB_t h
  refine xEvG_call xml xfetch (q := (some (0, v1), (xwr M a0 0 0))) rfl (hQ_whyNot a0 a1 1 (xwr M a0 0 0) _ e_) ?_
  show xEv (212, 11, [some (13, a0), some (0, a1), none, none, none, none, none], [(0, v1)], (xwr M a0 0 0)) _
  refine xEvG_n xml xfetch 3 (y := (212, if v1 = 0 then 18 else 16, [some (13, a0), some (0, a1), some (0, v1), none, none, none, none], [], (xwr M a0 0 0))) rfl trivial ?_
  refine xEvG_br xml xfetch (fun c_ => ?_) (fun c_ => ?_)
  · have h := xif_t c_ h
    refine xEvG_n xml xfetch 1 (y := (212, 19, [some (13, a0), some (0, a1), some (0, v1), none, none, none, none], [(13, a0)], (xwr M a0 0 0))) rfl trivial ?_
    obtain ⟨m2, e_, h⟩ := xB_t h
    refine xEvG_call xml xfetch (q := (none, m2)) rfl (hQ_asTold a0 (xwr M a0 0 0) _ e_) ?_
    show xEv (212, 22, [some (13, a0), some (0, a1), some (0, v1), none, none, none, none], [], m2) _
    refine xEvG_n xml xfetch 6 (y := (212, 30, [some (13, a0), some (0, a1), some (0, v1), some (0, (-1)), some (0, 0), some (0, 0), none], [], m2)) rfl trivial ?_
    refine xEvG_mask xml xfetch [true, true, false, true, true, true, false] ?_
    exact hQ_forger_L30 20001 a0 a1 (-1) 0 0 m2 _ h
  · have h := xif_f c_ h
    refine xEvG_n xml xfetch 1 (y := (212, 17, [some (13, a0), some (0, a1), some (0, v1), none, none, none, none], [(0, v1)], (xwr M a0 0 0))) rfl trivial ?_
    cases h
    exact xEvG_ret xml xfetch rfl

/-- ConsentDoorsModel.sets(III)I -/
def fQ_sets3 (a0 a1 a2 a3 : Int) (M : xM) : Option (Int × xM) := xA (0 ≤ (xw32 ((xw32 (6 * a1)) + a2)) ∧ (xw32 ((xw32 (6 * a1)) + a2)) < 270) (xA (0 ≤ (xw32 ((xw32 (6 * a1)) + a2)) ∧ (xw32 ((xw32 (6 * a1)) + a2)) < 270) (some ((M (a0 + 8) (xw32 ((xw32 (6 * a1)) + a2))), (xwr M (a0 + 8) (xw32 ((xw32 (6 * a1)) + a2)) a3))))
theorem hQ_sets3 (a0 a1 a2 a3 : Int) (M : xM) (r : Int × xM) (h : fQ_sets3 a0 a1 a2 a3 M = some r) : xEv (213, 0, [some (13, a0), some (0, a1), some (0, a2), some (0, a3), none], [], M) (some (0, r.1), r.2) := by
  unfold fQ_sets3 at h
  have a0_ := (xA_t h).1
  have h := (xA_t h).2
  have a1_ := (xA_t h).1
  have h := (xA_t h).2
  refine xEvG_n xml xfetch 19 (y := (213, 27, [some (13, a0), some (0, a1), some (0, a2), some (0, a3), some (0, (M (a0 + 8) (xw32 ((xw32 (6 * a1)) + a2))))], [(0, (M (a0 + 8) (xw32 ((xw32 (6 * a1)) + a2))))], (xwr M (a0 + 8) (xw32 ((xw32 (6 * a1)) + a2)) a3))) rfl ⟨a0_, a1_, trivial⟩ ?_
  cases h
  exact xEvG_ret xml xfetch rfl

/-- ConsentDoorsModel.temper(II)I -/
def fQ_temper (a0 a1 a2 : Int) (M : xM) : Option (Int × xM) := if (fQ_isCell a0 a1 (xwr M a0 0 0)) = 0 then (some ((-2), (xwr M a0 0 0))) else (if (fQ_in a2 0 9 (xwr M a0 0 0)) = 0 then (some ((-2), (xwr M a0 0 0))) else (xB (fQ_sets3 a0 a1 2 a2 (xwr M a0 0 0)) (fun q_ => match q_ with | (v3, m3) => some (v3, m3))))
theorem hQ_temper (a0 a1 a2 : Int) (M : xM) (r : Int × xM) (h : fQ_temper a0 a1 a2 M = some r) : xEv (214, 0, [some (13, a0), some (0, a1), some (0, a2)], [], M) (some (0, r.1), r.2) := by
  unfold fQ_temper at h
  refine xEvG_n xml xfetch 6 (y := (214, 8, [some (13, a0), some (0, a1), some (0, a2)], [(1, a1), (13, a0)], (xwr M a0 0 0))) rfl trivial ?_
  refine xEvG_call xml xfetch (q := (some (0, fQ_isCell a0 a1 (xwr M a0 0 0)), (xwr M a0 0 0))) rfl (hQ_isCell a0 a1 (xwr M a0 0 0) _ rfl) ?_
  show xEv (214, 11, [some (13, a0), some (0, a1), some (0, a2)], [(0, (fQ_isCell a0 a1 (xwr M a0 0 0)))], (xwr M a0 0 0)) _
  refine xEvG_n xml xfetch 1 (y := (214, if (fQ_isCell a0 a1 (xwr M a0 0 0)) = 0 then 36 else 14, [some (13, a0), some (0, a1), some (0, a2)], [], (xwr M a0 0 0))) rfl trivial ?_
  refine xEvG_br xml xfetch (fun c_ => ?_) (fun c_ => ?_)
  · have h := xif_t c_ h
    refine xEvG_n xml xfetch 1 (y := (214, 38, [some (13, a0), some (0, a1), some (0, a2)], [(0, (-2))], (xwr M a0 0 0))) rfl trivial ?_
    cases h
    exact xEvG_ret xml xfetch rfl
  · have h := xif_f c_ h
    refine xEvG_n xml xfetch 4 (y := (214, 20, [some (13, a0), some (0, a1), some (0, a2)], [(1, 9), (1, 0), (1, a2)], (xwr M a0 0 0))) rfl trivial ?_
    refine xEvG_call xml xfetch (q := (some (0, fQ_in a2 0 9 (xwr M a0 0 0)), (xwr M a0 0 0))) rfl (hQ_in a2 0 9 (xwr M a0 0 0) _ rfl) ?_
    show xEv (214, 23, [some (13, a0), some (0, a1), some (0, a2)], [(0, (fQ_in a2 0 9 (xwr M a0 0 0)))], (xwr M a0 0 0)) _
    refine xEvG_n xml xfetch 1 (y := (214, if (fQ_in a2 0 9 (xwr M a0 0 0)) = 0 then 36 else 26, [some (13, a0), some (0, a1), some (0, a2)], [], (xwr M a0 0 0))) rfl trivial ?_
    refine xEvG_br xml xfetch (fun c_ => ?_) (fun c_ => ?_)
    · have h := xif_t c_ h
      refine xEvG_n xml xfetch 1 (y := (214, 38, [some (13, a0), some (0, a1), some (0, a2)], [(0, (-2))], (xwr M a0 0 0))) rfl trivial ?_
      cases h
      exact xEvG_ret xml xfetch rfl
    · have h := xif_f c_ h
      refine xEvG_n xml xfetch 4 (y := (214, 30, [some (13, a0), some (0, a1), some (0, a2)], [(0, a2), (0, 2), (0, a1), (13, a0)], (xwr M a0 0 0))) rfl trivial ?_
      obtain ⟨⟨v3, m3⟩, e_, h⟩ := xB_t h
      refine xEvG_call xml xfetch (q := (some (0, v3), m3)) rfl (hQ_sets3 a0 a1 2 a2 (xwr M a0 0 0) _ e_) ?_
      show xEv (214, 33, [some (13, a0), some (0, a1), some (0, a2)], [(0, v3)], m3) _
      refine xEvG_n xml xfetch 1 (y := (214, 38, [some (13, a0), some (0, a1), some (0, a2)], [(0, v3)], m3)) rfl trivial ?_
      cases h
      exact xEvG_ret xml xfetch rfl

/-- ConsentDoorsModel.quarrel(II)I -/
def fQ_quarrel (a0 a1 a2 : Int) (M : xM) : Option (Int × xM) := if (fQ_isCell a0 a1 (xwr M a0 0 0)) = 0 then (some ((-2), (xwr M a0 0 0))) else (if (fQ_isSide a2 (xwr M a0 0 0)) = 0 then (some ((-2), (xwr M a0 0 0))) else (xB (fQ_besideIn a0 0 a1 1 (xwr M a0 0 0)) (fun v3 => if v3 = (-1) then (some ((-2), (xwr M a0 0 0))) else (if a2 = 1 then (some ((xand (xshr ((xwr M a0 0 0) (a0 + 7) 4) a1) 1), (xwr (xwr M a0 0 0) (a0 + 7) 4 (xor32 ((xwr M a0 0 0) (a0 + 7) 4) (xshl 1 a1))))) else (some ((xand (xshr ((xwr M a0 0 0) (a0 + 7) 4) a1) 1), (xwr (xwr M a0 0 0) (a0 + 7) 4 (xand ((xwr M a0 0 0) (a0 + 7) 4) (xxor (xshl 1 a1) (-1))))))))))
theorem hQ_quarrel (a0 a1 a2 : Int) (M : xM) (r : Int × xM) (h : fQ_quarrel a0 a1 a2 M = some r) : xEv (215, 0, [some (13, a0), some (0, a1), some (0, a2), none], [], M) (some (0, r.1), r.2) := by
  unfold fQ_quarrel at h
  refine xEvG_n xml xfetch 6 (y := (215, 8, [some (13, a0), some (0, a1), some (0, a2), none], [(1, a1), (13, a0)], (xwr M a0 0 0))) rfl trivial ?_
  refine xEvG_call xml xfetch (q := (some (0, fQ_isCell a0 a1 (xwr M a0 0 0)), (xwr M a0 0 0))) rfl (hQ_isCell a0 a1 (xwr M a0 0 0) _ rfl) ?_
  show xEv (215, 11, [some (13, a0), some (0, a1), some (0, a2), none], [(0, (fQ_isCell a0 a1 (xwr M a0 0 0)))], (xwr M a0 0 0)) _
  refine xEvG_n xml xfetch 1 (y := (215, if (fQ_isCell a0 a1 (xwr M a0 0 0)) = 0 then 33 else 14, [some (13, a0), some (0, a1), some (0, a2), none], [], (xwr M a0 0 0))) rfl trivial ?_
  refine xEvG_br xml xfetch (fun c_ => ?_) (fun c_ => ?_)
  · have h := xif_t c_ h
    refine xEvG_n xml xfetch 1 (y := (215, 35, [some (13, a0), some (0, a1), some (0, a2), none], [(0, (-2))], (xwr M a0 0 0))) rfl trivial ?_
    cases h
    exact xEvG_ret xml xfetch rfl
  · have h := xif_f c_ h
    refine xEvG_n xml xfetch 2 (y := (215, 16, [some (13, a0), some (0, a1), some (0, a2), none], [(1, a2)], (xwr M a0 0 0))) rfl trivial ?_
    refine xEvG_call xml xfetch (q := (some (0, fQ_isSide a2 (xwr M a0 0 0)), (xwr M a0 0 0))) rfl (hQ_isSide a2 (xwr M a0 0 0) _ rfl) ?_
    show xEv (215, 19, [some (13, a0), some (0, a1), some (0, a2), none], [(0, (fQ_isSide a2 (xwr M a0 0 0)))], (xwr M a0 0 0)) _
    refine xEvG_n xml xfetch 1 (y := (215, if (fQ_isSide a2 (xwr M a0 0 0)) = 0 then 33 else 22, [some (13, a0), some (0, a1), some (0, a2), none], [], (xwr M a0 0 0))) rfl trivial ?_
    refine xEvG_br xml xfetch (fun c_ => ?_) (fun c_ => ?_)
    · have h := xif_t c_ h
      refine xEvG_n xml xfetch 1 (y := (215, 35, [some (13, a0), some (0, a1), some (0, a2), none], [(0, (-2))], (xwr M a0 0 0))) rfl trivial ?_
      cases h
      exact xEvG_ret xml xfetch rfl
    · have h := xif_f c_ h
      refine xEvG_n xml xfetch 4 (y := (215, 26, [some (13, a0), some (0, a1), some (0, a2), none], [(0, 1), (0, a1), (0, 0), (13, a0)], (xwr M a0 0 0))) rfl trivial ?_
      obtain ⟨v3, e_, h⟩ := xB_t h
      refine xEvG_call xml xfetch (q := (some (0, v3), (xwr M a0 0 0))) rfl (hQ_besideIn a0 0 a1 1 (xwr M a0 0 0) _ e_) ?_
      show xEv (215, 29, [some (13, a0), some (0, a1), some (0, a2), none], [(0, v3)], (xwr M a0 0 0)) _
      refine xEvG_n xml xfetch 2 (y := (215, if v3 = (-1) then 33 else 36, [some (13, a0), some (0, a1), some (0, a2), none], [], (xwr M a0 0 0))) rfl trivial ?_
      refine xEvG_br xml xfetch (fun c_ => ?_) (fun c_ => ?_)
      · have h := xif_t c_ h
        refine xEvG_n xml xfetch 1 (y := (215, 35, [some (13, a0), some (0, a1), some (0, a2), none], [(0, (-2))], (xwr M a0 0 0))) rfl trivial ?_
        cases h
        exact xEvG_ret xml xfetch rfl
      · have h := xif_f c_ h
        refine xEvG_n xml xfetch 15 (y := (215, if a2 = 1 then 57 else 70, [some (13, a0), some (0, a1), some (0, a2), some (0, (xand (xshr ((xwr M a0 0 0) (a0 + 7) 4) a1) 1))], [(0, 4), (34, (a0 + 7))], (xwr M a0 0 0))) rfl ⟨by decide, trivial⟩ ?_
        refine xEvG_br xml xfetch (fun c_ => ?_) (fun c_ => ?_)
        · have h := xif_t c_ h
          refine xEvG_n xml xfetch 11 (y := (215, 84, [some (13, a0), some (0, a1), some (0, a2), some (0, (xand (xshr ((xwr M a0 0 0) (a0 + 7) 4) a1) 1))], [(0, (xand (xshr ((xwr M a0 0 0) (a0 + 7) 4) a1) 1))], (xwr (xwr M a0 0 0) (a0 + 7) 4 (xor32 ((xwr M a0 0 0) (a0 + 7) 4) (xshl 1 a1))))) rfl ⟨by decide, by decide, trivial⟩ ?_
          cases h
          exact xEvG_ret xml xfetch rfl
        · have h := xif_f c_ h
          refine xEvG_n xml xfetch 12 (y := (215, 84, [some (13, a0), some (0, a1), some (0, a2), some (0, (xand (xshr ((xwr M a0 0 0) (a0 + 7) 4) a1) 1))], [(0, (xand (xshr ((xwr M a0 0 0) (a0 + 7) 4) a1) 1))], (xwr (xwr M a0 0 0) (a0 + 7) 4 (xand ((xwr M a0 0 0) (a0 + 7) 4) (xxor (xshl 1 a1) (-1)))))) rfl ⟨by decide, by decide, trivial⟩ ?_
          cases h
          exact xEvG_ret xml xfetch rfl

/-- ConsentDoorsModel.vow(II)I -/
def fQ_vow (a0 a1 a2 : Int) (M : xM) : Option (Int × xM) := if (fQ_isCell a0 a1 (xwr M a0 0 0)) = 0 then (some ((-2), (xwr M a0 0 0))) else (if (fQ_isSide a2 (xwr M a0 0 0)) = 0 then (some ((-2), (xwr M a0 0 0))) else (xB (fQ_sets3 a0 a1 5 a2 (xwr M a0 0 0)) (fun q_ => match q_ with | (v3, m3) => some (v3, m3))))
theorem hQ_vow (a0 a1 a2 : Int) (M : xM) (r : Int × xM) (h : fQ_vow a0 a1 a2 M = some r) : xEv (216, 0, [some (13, a0), some (0, a1), some (0, a2)], [], M) (some (0, r.1), r.2) := by
  unfold fQ_vow at h
  refine xEvG_n xml xfetch 6 (y := (216, 8, [some (13, a0), some (0, a1), some (0, a2)], [(1, a1), (13, a0)], (xwr M a0 0 0))) rfl trivial ?_
  refine xEvG_call xml xfetch (q := (some (0, fQ_isCell a0 a1 (xwr M a0 0 0)), (xwr M a0 0 0))) rfl (hQ_isCell a0 a1 (xwr M a0 0 0) _ rfl) ?_
  show xEv (216, 11, [some (13, a0), some (0, a1), some (0, a2)], [(0, (fQ_isCell a0 a1 (xwr M a0 0 0)))], (xwr M a0 0 0)) _
  refine xEvG_n xml xfetch 1 (y := (216, if (fQ_isCell a0 a1 (xwr M a0 0 0)) = 0 then 32 else 14, [some (13, a0), some (0, a1), some (0, a2)], [], (xwr M a0 0 0))) rfl trivial ?_
  refine xEvG_br xml xfetch (fun c_ => ?_) (fun c_ => ?_)
  · have h := xif_t c_ h
    refine xEvG_n xml xfetch 1 (y := (216, 34, [some (13, a0), some (0, a1), some (0, a2)], [(0, (-2))], (xwr M a0 0 0))) rfl trivial ?_
    cases h
    exact xEvG_ret xml xfetch rfl
  · have h := xif_f c_ h
    refine xEvG_n xml xfetch 2 (y := (216, 16, [some (13, a0), some (0, a1), some (0, a2)], [(1, a2)], (xwr M a0 0 0))) rfl trivial ?_
    refine xEvG_call xml xfetch (q := (some (0, fQ_isSide a2 (xwr M a0 0 0)), (xwr M a0 0 0))) rfl (hQ_isSide a2 (xwr M a0 0 0) _ rfl) ?_
    show xEv (216, 19, [some (13, a0), some (0, a1), some (0, a2)], [(0, (fQ_isSide a2 (xwr M a0 0 0)))], (xwr M a0 0 0)) _
    refine xEvG_n xml xfetch 1 (y := (216, if (fQ_isSide a2 (xwr M a0 0 0)) = 0 then 32 else 22, [some (13, a0), some (0, a1), some (0, a2)], [], (xwr M a0 0 0))) rfl trivial ?_
    refine xEvG_br xml xfetch (fun c_ => ?_) (fun c_ => ?_)
    · have h := xif_t c_ h
      refine xEvG_n xml xfetch 1 (y := (216, 34, [some (13, a0), some (0, a1), some (0, a2)], [(0, (-2))], (xwr M a0 0 0))) rfl trivial ?_
      cases h
      exact xEvG_ret xml xfetch rfl
    · have h := xif_f c_ h
      refine xEvG_n xml xfetch 4 (y := (216, 26, [some (13, a0), some (0, a1), some (0, a2)], [(0, a2), (0, 5), (0, a1), (13, a0)], (xwr M a0 0 0))) rfl trivial ?_
      obtain ⟨⟨v3, m3⟩, e_, h⟩ := xB_t h
      refine xEvG_call xml xfetch (q := (some (0, v3), m3)) rfl (hQ_sets3 a0 a1 5 a2 (xwr M a0 0 0) _ e_) ?_
      show xEv (216, 29, [some (13, a0), some (0, a1), some (0, a2)], [(0, v3)], m3) _
      refine xEvG_n xml xfetch 1 (y := (216, 34, [some (13, a0), some (0, a1), some (0, a2)], [(0, v3)], m3)) rfl trivial ?_
      cases h
      exact xEvG_ret xml xfetch rfl

def fQ_asleepIn_L4 : Nat → Int → Int → Int → Int → xM → Option Int
  | 0, _, _, _, _, _ => none
  | g + 1, x0, x1, x2, x3, M => if x3 < (M (x0 + 7) 0) then (xB (fQ_sleepsTold x0 x3 x1 M) (fun v1 => if v1 = 0 then ((fQ_asleepIn_L4 g) x0 x1 (xw32 (x2 + 0)) (xw32 (x3 + 1)) M) else ((fQ_asleepIn_L4 g) x0 x1 (xw32 (x2 + 1)) (xw32 (x3 + 1)) M))) else (some x2)
theorem hQ_asleepIn_L4 : ∀ (g : Nat) (x0 x1 x2 x3 : Int) (M : xM) (r : Int) (h : fQ_asleepIn_L4 g x0 x1 x2 x3 M = some r), xEv (217, 4, [some (13, x0), some (0, x1), some (0, x2), some (0, x3)], [], M) (some (0, r), M)
  | 0, _, _, _, _, _, _, h => by cases h
  | g + 1, x0, x1, x2, x3, M, r, h => by
    unfold fQ_asleepIn_L4 at h
    refine xEvG_n xml xfetch 6 (y := (217, if x3 < (M (x0 + 7) 0) then 14 else 37, [some (13, x0), some (0, x1), some (0, x2), some (0, x3)], [], M)) rfl ⟨by decide, trivial⟩ ?_
    refine xEvG_br xml xfetch (fun c_ => ?_) (fun c_ => ?_)
    · have h := xif_t c_ h
      refine xEvG_n xml xfetch 4 (y := (217, 18, [some (13, x0), some (0, x1), some (0, x2), some (0, x3)], [(0, x1), (0, x3), (13, x0), (0, x2)], M)) rfl trivial ?_
      obtain ⟨v1, e_, h⟩ := xB_t h
      refine xEvG_call xml xfetch (q := (some (0, v1), M)) rfl (hQ_sleepsTold x0 x3 x1 M _ e_) ?_
      show xEv (217, 21, [some (13, x0), some (0, x1), some (0, x2), some (0, x3)], [(0, v1), (0, x2)], M) _
      refine xEvG_n xml xfetch 1 (y := (217, if v1 = 0 then 28 else 24, [some (13, x0), some (0, x1), some (0, x2), some (0, x3)], [(0, x2)], M)) rfl trivial ?_
      refine xEvG_br xml xfetch (fun c_ => ?_) (fun c_ => ?_)
      · have h := xif_t c_ h
        refine xEvG_n xml xfetch 5 (y := (217, 4, [some (13, x0), some (0, x1), some (0, (xw32 (x2 + 0))), some (0, (xw32 (x3 + 1)))], [], M)) rfl trivial ?_
        refine xEvG_mask xml xfetch [true, true, true, true] ?_
        exact (hQ_asleepIn_L4 g) x0 x1 (xw32 (x2 + 0)) (xw32 (x3 + 1)) M _ h
      · have h := xif_f c_ h
        refine xEvG_n xml xfetch 6 (y := (217, 4, [some (13, x0), some (0, x1), some (0, (xw32 (x2 + 1))), some (0, (xw32 (x3 + 1)))], [], M)) rfl trivial ?_
        refine xEvG_mask xml xfetch [true, true, true, true] ?_
        exact (hQ_asleepIn_L4 g) x0 x1 (xw32 (x2 + 1)) (xw32 (x3 + 1)) M _ h
    · have h := xif_f c_ h
      refine xEvG_n xml xfetch 1 (y := (217, 38, [some (13, x0), some (0, x1), some (0, x2), some (0, x3)], [(0, x2)], M)) rfl trivial ?_
      cases h
      exact xEvG_ret xml xfetch rfl
/-- ConsentDoorsModel.asleepIn(I)I -/
def fQ_asleepIn (a0 a1 : Int) (M : xM) : Option Int := fQ_asleepIn_L4 20001 a0 a1 0 0 M
theorem hQ_asleepIn (a0 a1 : Int) (M : xM) (r : Int) (h : fQ_asleepIn a0 a1 M = some r) : xEv (217, 0, [some (13, a0), some (0, a1), none, none], [], M) (some (0, r), M) := by
  unfold fQ_asleepIn at h
  refine xEvG_n xml xfetch 4 (y := (217, 4, [some (13, a0), some (0, a1), some (0, 0), some (0, 0)], [], M)) rfl trivial ?_
  refine xEvG_mask xml xfetch [true, true, true, true] ?_
  exact hQ_asleepIn_L4 20001 a0 a1 0 0 M _ h

def fQ_sleep_L65 (k_38 : Int → Int → Int → Int → Int → Int → Int → xM → Option (Int × xM)) (x0 x1 x2 x4 x5 x6 y0 y1 : Int) (M : xM) : Option (Int × xM) := xB (fQ_asleepIn x0 x6 M) (fun v4 => if x5 < v4 then (k_38 x0 x1 x2 (xw32 (y1 + y0)) x6 v4 (xw32 (x6 + 1)) M) else (k_38 x0 x1 x2 (xw32 (y1 + y0)) x4 x5 (xw32 (x6 + 1)) M))
theorem hQ_sleep_L65 (k_38 : Int → Int → Int → Int → Int → Int → Int → xM → Option (Int × xM)) (hk_38 : ∀ (x0 x1 x2 x3 x4 x5 x6 : Int) (M : xM) (r : Int × xM), k_38 x0 x1 x2 x3 x4 x5 x6 M = some r → xEv (218, 38, [some (13, x0), some (0, x1), some (0, x2), some (0, x3), some (0, x4), some (0, x5), some (0, x6), none], [], M) (some (0, r.1), r.2)) (x0 x1 x2 x4 x5 x6 y0 y1 : Int) (M : xM) (r : Int × xM) (h : fQ_sleep_L65 k_38 x0 x1 x2 x4 x5 x6 y0 y1 M = some r) : xEv (218, 65, [some (13, x0), some (0, x1), some (0, x2), none, some (0, x4), some (0, x5), some (0, x6), none], [(0, y0), (0, y1)], M) (some (0, r.1), r.2) := by
  unfold fQ_sleep_L65 at h
  refine xEvG_n xml xfetch 4 (y := (218, 70, [some (13, x0), some (0, x1), some (0, x2), some (0, (xw32 (y1 + y0))), some (0, x4), some (0, x5), some (0, x6), none], [(0, x6), (13, x0)], M)) rfl trivial ?_
  obtain ⟨v4, e_, h⟩ := xB_t h
  refine xEvG_call xml xfetch (q := (some (0, v4), M)) rfl (hQ_asleepIn x0 x6 M _ e_) ?_
  show xEv (218, 73, [some (13, x0), some (0, x1), some (0, x2), some (0, (xw32 (y1 + y0))), some (0, x4), some (0, x5), some (0, x6), none], [(0, v4)], M) _
  refine xEvG_n xml xfetch 4 (y := (218, if x5 < v4 then 85 else 82, [some (13, x0), some (0, x1), some (0, x2), some (0, (xw32 (y1 + y0))), some (0, x4), some (0, x5), some (0, x6), some (0, v4)], [], M)) rfl trivial ?_
  refine xEvG_br xml xfetch (fun c_ => ?_) (fun c_ => ?_)
  · have h := xif_t c_ h
    refine xEvG_n xml xfetch 6 (y := (218, 38, [some (13, x0), some (0, x1), some (0, x2), some (0, (xw32 (y1 + y0))), some (0, x6), some (0, v4), some (0, (xw32 (x6 + 1))), some (0, v4)], [], M)) rfl trivial ?_
    refine xEvG_mask xml xfetch [true, true, true, true, true, true, true, false] ?_
    exact hk_38 x0 x1 x2 (xw32 (y1 + y0)) x6 v4 (xw32 (x6 + 1)) M _ h
  · have h := xif_f c_ h
    refine xEvG_n xml xfetch 3 (y := (218, 38, [some (13, x0), some (0, x1), some (0, x2), some (0, (xw32 (y1 + y0))), some (0, x4), some (0, x5), some (0, (xw32 (x6 + 1))), some (0, v4)], [], M)) rfl trivial ?_
    refine xEvG_mask xml xfetch [true, true, true, true, true, true, true, false] ?_
    exact hk_38 x0 x1 x2 (xw32 (y1 + y0)) x4 x5 (xw32 (x6 + 1)) M _ h
def fQ_sleep_L38 : Nat → Int → Int → Int → Int → Int → Int → Int → xM → Option (Int × xM)
  | 0, _, _, _, _, _, _, _, _ => none
  | g + 1, x0, x1, x2, x3, x4, x5, x6, M => if x6 < (M (x0 + 7) 1) then (xB (fQ_sleepsTold x0 x1 x6 M) (fun v3 => if v3 = 0 then (fQ_sleep_L65 (fQ_sleep_L38 g) x0 x1 x2 x4 x5 x6 0 x3 M) else (fQ_sleep_L65 (fQ_sleep_L38 g) x0 x1 x2 x4 x5 x6 1 x3 M))) else (some ((if x2 = 0 then x3 else x4 : Int), M))
theorem hQ_sleep_L38 : ∀ (g : Nat) (x0 x1 x2 x3 x4 x5 x6 : Int) (M : xM) (r : Int × xM) (h : fQ_sleep_L38 g x0 x1 x2 x3 x4 x5 x6 M = some r), xEv (218, 38, [some (13, x0), some (0, x1), some (0, x2), some (0, x3), some (0, x4), some (0, x5), some (0, x6), none], [], M) (some (0, r.1), r.2)
  | 0, _, _, _, _, _, _, _, _, _, h => by cases h
  | g + 1, x0, x1, x2, x3, x4, x5, x6, M, r, h => by
    unfold fQ_sleep_L38 at h
    refine xEvG_n xml xfetch 6 (y := (218, if x6 < (M (x0 + 7) 1) then 49 else 99, [some (13, x0), some (0, x1), some (0, x2), some (0, x3), some (0, x4), some (0, x5), some (0, x6), none], [], M)) rfl ⟨by decide, trivial⟩ ?_
    refine xEvG_br xml xfetch (fun c_ => ?_) (fun c_ => ?_)
    · have h := xif_t c_ h
      refine xEvG_n xml xfetch 4 (y := (218, 54, [some (13, x0), some (0, x1), some (0, x2), some (0, x3), some (0, x4), some (0, x5), some (0, x6), none], [(0, x6), (0, x1), (13, x0), (0, x3)], M)) rfl trivial ?_
      obtain ⟨v3, e_, h⟩ := xB_t h
      refine xEvG_call xml xfetch (q := (some (0, v3), M)) rfl (hQ_sleepsTold x0 x1 x6 M _ e_) ?_
      show xEv (218, 57, [some (13, x0), some (0, x1), some (0, x2), some (0, x3), some (0, x4), some (0, x5), some (0, x6), none], [(0, v3), (0, x3)], M) _
      refine xEvG_n xml xfetch 1 (y := (218, if v3 = 0 then 64 else 60, [some (13, x0), some (0, x1), some (0, x2), some (0, x3), some (0, x4), some (0, x5), some (0, x6), none], [(0, x3)], M)) rfl trivial ?_
      refine xEvG_br xml xfetch (fun c_ => ?_) (fun c_ => ?_)
      · have h := xif_t c_ h
        refine xEvG_n xml xfetch 1 (y := (218, 65, [some (13, x0), some (0, x1), some (0, x2), some (0, x3), some (0, x4), some (0, x5), some (0, x6), none], [(0, 0), (0, x3)], M)) rfl trivial ?_
        refine xEvG_mask xml xfetch [true, true, true, false, true, true, true, false] ?_
        exact hQ_sleep_L65 (fQ_sleep_L38 g) (hQ_sleep_L38 g) x0 x1 x2 x4 x5 x6 0 x3 M _ h
      · have h := xif_f c_ h
        refine xEvG_n xml xfetch 2 (y := (218, 65, [some (13, x0), some (0, x1), some (0, x2), some (0, x3), some (0, x4), some (0, x5), some (0, x6), none], [(0, 1), (0, x3)], M)) rfl trivial ?_
        refine xEvG_mask xml xfetch [true, true, true, false, true, true, true, false] ?_
        exact hQ_sleep_L65 (fQ_sleep_L38 g) (hQ_sleep_L38 g) x0 x1 x2 x4 x5 x6 1 x3 M _ h
    · have h := xif_f c_ h
      refine xEvG_n xml xfetch 1 (y := (218, 100, [some (13, x0), some (0, x1), some (0, x2), some (0, x3), some (0, x4), some (0, x5), some (0, x6), none], [(0, x2)], M)) rfl trivial ?_
      have key_ : xEv (218, 109, [some (13, x0), some (0, x1), some (0, x2), some (0, x3), some (0, x4), some (0, x5), some (0, x6), none], [(0, (if x2 = 0 then x3 else x4 : Int))], M) (some (0, r.1), r.2) := by
        cases h
        exact xEvG_ret xml xfetch rfl
      refine xEvG_n xml xfetch 1 (y := (218, if x2 = 0 then 103 else 107, [some (13, x0), some (0, x1), some (0, x2), some (0, x3), some (0, x4), some (0, x5), some (0, x6), none], [], M)) rfl trivial ?_
      refine xEvG_br xml xfetch (fun c6_ => ?_) (fun c6_ => ?_)
      · refine xEvG_n xml xfetch 2 (y := (218, 109, [some (13, x0), some (0, x1), some (0, x2), some (0, x3), some (0, x4), some (0, x5), some (0, x6), none], [(0, x3)], M)) rfl trivial ?_
        try simp only [if_pos c6_] at key_
        try simp only [if_pos c6_]
        exact key_
      · refine xEvG_n xml xfetch 1 (y := (218, 109, [some (13, x0), some (0, x1), some (0, x2), some (0, x3), some (0, x4), some (0, x5), some (0, x6), none], [(0, x4)], M)) rfl trivial ?_
        try simp only [if_neg c6_] at key_
        try simp only [if_neg c6_]
        exact key_
/-- ConsentDoorsModel.sleep(II)I -/
def fQ_sleep (a0 a1 a2 : Int) (M : xM) : Option (Int × xM) := if (fQ_isCell a0 a1 (xwr M a0 0 0)) = 0 then (some ((-2), (xwr M a0 0 0))) else (if (fQ_in a2 0 1 (xwr M a0 0 0)) = 0 then (some ((-2), (xwr M a0 0 0))) else (fQ_sleep_L38 20001 a0 a1 a2 0 0 0 0 (xwr M a0 0 0)))
theorem hQ_sleep (a0 a1 a2 : Int) (M : xM) (r : Int × xM) (h : fQ_sleep a0 a1 a2 M = some r) : xEv (218, 0, [some (13, a0), some (0, a1), some (0, a2), none, none, none, none, none], [], M) (some (0, r.1), r.2) := by
  unfold fQ_sleep at h
  refine xEvG_n xml xfetch 6 (y := (218, 8, [some (13, a0), some (0, a1), some (0, a2), none, none, none, none, none], [(1, a1), (13, a0)], (xwr M a0 0 0))) rfl trivial ?_
  refine xEvG_call xml xfetch (q := (some (0, fQ_isCell a0 a1 (xwr M a0 0 0)), (xwr M a0 0 0))) rfl (hQ_isCell a0 a1 (xwr M a0 0 0) _ rfl) ?_
  show xEv (218, 11, [some (13, a0), some (0, a1), some (0, a2), none, none, none, none, none], [(0, (fQ_isCell a0 a1 (xwr M a0 0 0)))], (xwr M a0 0 0)) _
  refine xEvG_n xml xfetch 1 (y := (218, if (fQ_isCell a0 a1 (xwr M a0 0 0)) = 0 then 24 else 14, [some (13, a0), some (0, a1), some (0, a2), none, none, none, none, none], [], (xwr M a0 0 0))) rfl trivial ?_
  refine xEvG_br xml xfetch (fun c_ => ?_) (fun c_ => ?_)
  · have h := xif_t c_ h
    refine xEvG_n xml xfetch 1 (y := (218, 26, [some (13, a0), some (0, a1), some (0, a2), none, none, none, none, none], [(0, (-2))], (xwr M a0 0 0))) rfl trivial ?_
    cases h
    exact xEvG_ret xml xfetch rfl
  · have h := xif_f c_ h
    refine xEvG_n xml xfetch 4 (y := (218, 18, [some (13, a0), some (0, a1), some (0, a2), none, none, none, none, none], [(1, 1), (1, 0), (1, a2)], (xwr M a0 0 0))) rfl trivial ?_
    refine xEvG_call xml xfetch (q := (some (0, fQ_in a2 0 1 (xwr M a0 0 0)), (xwr M a0 0 0))) rfl (hQ_in a2 0 1 (xwr M a0 0 0) _ rfl) ?_
    show xEv (218, 21, [some (13, a0), some (0, a1), some (0, a2), none, none, none, none, none], [(0, (fQ_in a2 0 1 (xwr M a0 0 0)))], (xwr M a0 0 0)) _
    refine xEvG_n xml xfetch 1 (y := (218, if (fQ_in a2 0 1 (xwr M a0 0 0)) = 0 then 24 else 27, [some (13, a0), some (0, a1), some (0, a2), none, none, none, none, none], [], (xwr M a0 0 0))) rfl trivial ?_
    refine xEvG_br xml xfetch (fun c_ => ?_) (fun c_ => ?_)
    · have h := xif_t c_ h
      refine xEvG_n xml xfetch 1 (y := (218, 26, [some (13, a0), some (0, a1), some (0, a2), none, none, none, none, none], [(0, (-2))], (xwr M a0 0 0))) rfl trivial ?_
      cases h
      exact xEvG_ret xml xfetch rfl
    · have h := xif_f c_ h
      refine xEvG_n xml xfetch 8 (y := (218, 38, [some (13, a0), some (0, a1), some (0, a2), some (0, 0), some (0, 0), some (0, 0), some (0, 0), none], [], (xwr M a0 0 0))) rfl trivial ?_
      refine xEvG_mask xml xfetch [true, true, true, true, true, true, true, false] ?_
      exact hQ_sleep_L38 20001 a0 a1 a2 0 0 0 0 (xwr M a0 0 0) _ h

/-- ConsentDoorsModel.asleep(I)I -/
def fQ_asleep (a0 a1 : Int) (M : xM) : Option (Int × xM) := if (fQ_isHour a0 a1 (xwr M a0 0 0)) = 0 then (some ((-2), (xwr M a0 0 0))) else (xB (fQ_asleepIn a0 a1 (xwr M a0 0 0)) (fun v2 => some (v2, (xwr M a0 0 0))))
theorem hQ_asleep (a0 a1 : Int) (M : xM) (r : Int × xM) (h : fQ_asleep a0 a1 M = some r) : xEv (219, 0, [some (13, a0), some (0, a1)], [], M) (some (0, r.1), r.2) := by
  unfold fQ_asleep at h
  refine xEvG_n xml xfetch 6 (y := (219, 8, [some (13, a0), some (0, a1)], [(1, a1), (13, a0)], (xwr M a0 0 0))) rfl trivial ?_
  refine xEvG_call xml xfetch (q := (some (0, fQ_isHour a0 a1 (xwr M a0 0 0)), (xwr M a0 0 0))) rfl (hQ_isHour a0 a1 (xwr M a0 0 0) _ rfl) ?_
  show xEv (219, 11, [some (13, a0), some (0, a1)], [(0, (fQ_isHour a0 a1 (xwr M a0 0 0)))], (xwr M a0 0 0)) _
  refine xEvG_n xml xfetch 1 (y := (219, if (fQ_isHour a0 a1 (xwr M a0 0 0)) = 0 then 22 else 14, [some (13, a0), some (0, a1)], [], (xwr M a0 0 0))) rfl trivial ?_
  refine xEvG_br xml xfetch (fun c_ => ?_) (fun c_ => ?_)
  · have h := xif_t c_ h
    refine xEvG_n xml xfetch 1 (y := (219, 24, [some (13, a0), some (0, a1)], [(0, (-2))], (xwr M a0 0 0))) rfl trivial ?_
    cases h
    exact xEvG_ret xml xfetch rfl
  · have h := xif_f c_ h
    refine xEvG_n xml xfetch 2 (y := (219, 16, [some (13, a0), some (0, a1)], [(0, a1), (13, a0)], (xwr M a0 0 0))) rfl trivial ?_
    obtain ⟨v2, e_, h⟩ := xB_t h
    refine xEvG_call xml xfetch (q := (some (0, v2), (xwr M a0 0 0))) rfl (hQ_asleepIn a0 a1 (xwr M a0 0 0) _ e_) ?_
    show xEv (219, 19, [some (13, a0), some (0, a1)], [(0, v2)], (xwr M a0 0 0)) _
    refine xEvG_n xml xfetch 1 (y := (219, 24, [some (13, a0), some (0, a1)], [(0, v2)], (xwr M a0 0 0))) rfl trivial ?_
    cases h
    exact xEvG_ret xml xfetch rfl

def fQ_pairs_L25 : Nat → Int → Int → Int → Int → xM → Option (Int × xM)
  | 0, _, _, _, _, _ => none
  | g + 1, x0, x1, x2, x3, M => if x3 < (M (x0 + 7) 0) then (xB (fQ_besideIn x0 0 x3 1 M) (fun v3 => if v3 = (-1) then ((fQ_pairs_L25 g) x0 x1 (xw32 (x2 + 0)) (xw32 (x3 + 1)) M) else (xA (0 ≤ (xw32 ((xw32 (2 * x1)) + 1)) ∧ (xw32 ((xw32 (2 * x1)) + 1)) < 48) (if (fQ_isBit (M (x0 + 14) (xw32 ((xw32 (2 * x1)) + 1))) x3 M) = 0 then ((fQ_pairs_L25 g) x0 x1 (xw32 (x2 + 0)) (xw32 (x3 + 1)) M) else (xA (0 ≤ (xw32 (2 * x1)) ∧ (xw32 (2 * x1)) < 48) (if (fQ_isBit (M (x0 + 14) (xw32 (2 * x1))) v3 M) = 0 then ((fQ_pairs_L25 g) x0 x1 (xw32 (x2 + 0)) (xw32 (x3 + 1)) M) else ((fQ_pairs_L25 g) x0 x1 (xw32 (x2 + 1)) (xw32 (x3 + 1)) M))))))) else (some (x2, M))
theorem hQ_pairs_L25 : ∀ (g : Nat) (x0 x1 x2 x3 : Int) (M : xM) (r : Int × xM) (h : fQ_pairs_L25 g x0 x1 x2 x3 M = some r), xEv (220, 25, [some (13, x0), some (0, x1), some (0, x2), some (0, x3), none], [], M) (some (0, r.1), r.2)
  | 0, _, _, _, _, _, _, h => by cases h
  | g + 1, x0, x1, x2, x3, M, r, h => by
    unfold fQ_pairs_L25 at h
    refine xEvG_n xml xfetch 6 (y := (220, if x3 < (M (x0 + 7) 0) then 35 else 97, [some (13, x0), some (0, x1), some (0, x2), some (0, x3), none], [], M)) rfl ⟨by decide, trivial⟩ ?_
    refine xEvG_br xml xfetch (fun c_ => ?_) (fun c_ => ?_)
    · have h := xif_t c_ h
      refine xEvG_n xml xfetch 4 (y := (220, 39, [some (13, x0), some (0, x1), some (0, x2), some (0, x3), none], [(0, 1), (0, x3), (0, 0), (13, x0)], M)) rfl trivial ?_
      obtain ⟨v3, e_, h⟩ := xB_t h
      refine xEvG_call xml xfetch (q := (some (0, v3), M)) rfl (hQ_besideIn x0 0 x3 1 M _ e_) ?_
      show xEv (220, 42, [some (13, x0), some (0, x1), some (0, x2), some (0, x3), none], [(0, v3)], M) _
      refine xEvG_n xml xfetch 5 (y := (220, if v3 = (-1) then 88 else 51, [some (13, x0), some (0, x1), some (0, x2), some (0, x3), some (0, v3)], [(0, x2)], M)) rfl trivial ?_
      refine xEvG_br xml xfetch (fun c_ => ?_) (fun c_ => ?_)
      · have h := xif_t c_ h
        refine xEvG_n xml xfetch 5 (y := (220, 25, [some (13, x0), some (0, x1), some (0, (xw32 (x2 + 0))), some (0, (xw32 (x3 + 1))), some (0, v3)], [], M)) rfl trivial ?_
        refine xEvG_mask xml xfetch [true, true, true, true, false] ?_
        exact (hQ_pairs_L25 g) x0 x1 (xw32 (x2 + 0)) (xw32 (x3 + 1)) M _ h
      · have h := xif_f c_ h
        have a0_ := (xA_t h).1
        have h := (xA_t h).2
        refine xEvG_n xml xfetch 9 (y := (220, 62, [some (13, x0), some (0, x1), some (0, x2), some (0, x3), some (0, v3)], [(0, x3), (0, (M (x0 + 14) (xw32 ((xw32 (2 * x1)) + 1)))), (0, x2)], M)) rfl ⟨a0_, trivial⟩ ?_
        refine xEvG_call xml xfetch (q := (some (0, fQ_isBit (M (x0 + 14) (xw32 ((xw32 (2 * x1)) + 1))) x3 M), M)) rfl (hQ_isBit (M (x0 + 14) (xw32 ((xw32 (2 * x1)) + 1))) x3 M _ rfl) ?_
        show xEv (220, 65, [some (13, x0), some (0, x1), some (0, x2), some (0, x3), some (0, v3)], [(0, (fQ_isBit (M (x0 + 14) (xw32 ((xw32 (2 * x1)) + 1))) x3 M)), (0, x2)], M) _
        refine xEvG_n xml xfetch 1 (y := (220, if (fQ_isBit (M (x0 + 14) (xw32 ((xw32 (2 * x1)) + 1))) x3 M) = 0 then 88 else 68, [some (13, x0), some (0, x1), some (0, x2), some (0, x3), some (0, v3)], [(0, x2)], M)) rfl trivial ?_
        refine xEvG_br xml xfetch (fun c_ => ?_) (fun c_ => ?_)
        · have h := xif_t c_ h
          refine xEvG_n xml xfetch 5 (y := (220, 25, [some (13, x0), some (0, x1), some (0, (xw32 (x2 + 0))), some (0, (xw32 (x3 + 1))), some (0, v3)], [], M)) rfl trivial ?_
          refine xEvG_mask xml xfetch [true, true, true, true, false] ?_
          exact (hQ_pairs_L25 g) x0 x1 (xw32 (x2 + 0)) (xw32 (x3 + 1)) M _ h
        · have h := xif_f c_ h
          have a0_ := (xA_t h).1
          have h := (xA_t h).2
          refine xEvG_n xml xfetch 7 (y := (220, 78, [some (13, x0), some (0, x1), some (0, x2), some (0, x3), some (0, v3)], [(0, v3), (0, (M (x0 + 14) (xw32 (2 * x1)))), (0, x2)], M)) rfl ⟨a0_, trivial⟩ ?_
          refine xEvG_call xml xfetch (q := (some (0, fQ_isBit (M (x0 + 14) (xw32 (2 * x1))) v3 M), M)) rfl (hQ_isBit (M (x0 + 14) (xw32 (2 * x1))) v3 M _ rfl) ?_
          show xEv (220, 81, [some (13, x0), some (0, x1), some (0, x2), some (0, x3), some (0, v3)], [(0, (fQ_isBit (M (x0 + 14) (xw32 (2 * x1))) v3 M)), (0, x2)], M) _
          refine xEvG_n xml xfetch 1 (y := (220, if (fQ_isBit (M (x0 + 14) (xw32 (2 * x1))) v3 M) = 0 then 88 else 84, [some (13, x0), some (0, x1), some (0, x2), some (0, x3), some (0, v3)], [(0, x2)], M)) rfl trivial ?_
          refine xEvG_br xml xfetch (fun c_ => ?_) (fun c_ => ?_)
          · have h := xif_t c_ h
            refine xEvG_n xml xfetch 5 (y := (220, 25, [some (13, x0), some (0, x1), some (0, (xw32 (x2 + 0))), some (0, (xw32 (x3 + 1))), some (0, v3)], [], M)) rfl trivial ?_
            refine xEvG_mask xml xfetch [true, true, true, true, false] ?_
            exact (hQ_pairs_L25 g) x0 x1 (xw32 (x2 + 0)) (xw32 (x3 + 1)) M _ h
          · have h := xif_f c_ h
            refine xEvG_n xml xfetch 6 (y := (220, 25, [some (13, x0), some (0, x1), some (0, (xw32 (x2 + 1))), some (0, (xw32 (x3 + 1))), some (0, v3)], [], M)) rfl trivial ?_
            refine xEvG_mask xml xfetch [true, true, true, true, false] ?_
            exact (hQ_pairs_L25 g) x0 x1 (xw32 (x2 + 1)) (xw32 (x3 + 1)) M _ h
    · have h := xif_f c_ h
      refine xEvG_n xml xfetch 1 (y := (220, 98, [some (13, x0), some (0, x1), some (0, x2), some (0, x3), none], [(0, x2)], M)) rfl trivial ?_
      cases h
      exact xEvG_ret xml xfetch rfl
/-- ConsentDoorsModel.pairs(I)I -/
def fQ_pairs (a0 a1 : Int) (M : xM) : Option (Int × xM) := if (fQ_isHour a0 a1 (xwr M a0 0 0)) = 0 then (some ((-2), (xwr M a0 0 0))) else (xB (fQ_lays a0 (xwr M a0 0 0)) (fun m2 => fQ_pairs_L25 20001 a0 a1 0 0 m2))
theorem hQ_pairs (a0 a1 : Int) (M : xM) (r : Int × xM) (h : fQ_pairs a0 a1 M = some r) : xEv (220, 0, [some (13, a0), some (0, a1), none, none, none], [], M) (some (0, r.1), r.2) := by
  unfold fQ_pairs at h
  refine xEvG_n xml xfetch 6 (y := (220, 8, [some (13, a0), some (0, a1), none, none, none], [(1, a1), (13, a0)], (xwr M a0 0 0))) rfl trivial ?_
  refine xEvG_call xml xfetch (q := (some (0, fQ_isHour a0 a1 (xwr M a0 0 0)), (xwr M a0 0 0))) rfl (hQ_isHour a0 a1 (xwr M a0 0 0) _ rfl) ?_
  show xEv (220, 11, [some (13, a0), some (0, a1), none, none, none], [(0, (fQ_isHour a0 a1 (xwr M a0 0 0)))], (xwr M a0 0 0)) _
  refine xEvG_n xml xfetch 1 (y := (220, if (fQ_isHour a0 a1 (xwr M a0 0 0)) = 0 then 14 else 17, [some (13, a0), some (0, a1), none, none, none], [], (xwr M a0 0 0))) rfl trivial ?_
  refine xEvG_br xml xfetch (fun c_ => ?_) (fun c_ => ?_)
  · have h := xif_t c_ h
    refine xEvG_n xml xfetch 1 (y := (220, 16, [some (13, a0), some (0, a1), none, none, none], [(0, (-2))], (xwr M a0 0 0))) rfl trivial ?_
    cases h
    exact xEvG_ret xml xfetch rfl
  · have h := xif_f c_ h
    refine xEvG_n xml xfetch 1 (y := (220, 18, [some (13, a0), some (0, a1), none, none, none], [(13, a0)], (xwr M a0 0 0))) rfl trivial ?_
    obtain ⟨m2, e_, h⟩ := xB_t h
    refine xEvG_call xml xfetch (q := (none, m2)) rfl (hQ_lays a0 (xwr M a0 0 0) _ e_) ?_
    show xEv (220, 21, [some (13, a0), some (0, a1), none, none, none], [], m2) _
    refine xEvG_n xml xfetch 4 (y := (220, 25, [some (13, a0), some (0, a1), some (0, 0), some (0, 0), none], [], m2)) rfl trivial ?_
    refine xEvG_mask xml xfetch [true, true, true, true, false] ?_
    exact hQ_pairs_L25 20001 a0 a1 0 0 m2 _ h

/-- ConsentDoorsModel.isDraw(II)Z -/
def fQ_isDraw (a0 a1 a2 : Int) (M : xM) : Int := if (fQ_isPrison a0 M) = 0 then (0) else (if (fQ_in a1 0 2000000000 M) = 0 then (0) else ((if (fQ_in a2 0 100 M) = 0 then 0 else 1 : Int)))
theorem hQ_isDraw (a0 a1 a2 : Int) (M : xM) (r : Int) (h : fQ_isDraw a0 a1 a2 M = r) : xEv (222, 0, [some (13, a0), some (0, a1), some (0, a2)], [], M) (some (0, r), M) := by
  unfold fQ_isDraw at h
  refine xEvG_n xml xfetch 1 (y := (222, 1, [some (13, a0), some (0, a1), some (0, a2)], [(13, a0)], M)) rfl trivial ?_
  refine xEvG_call xml xfetch (q := (some (0, fQ_isPrison a0 M), M)) rfl (hQ_isPrison a0 M _ rfl) ?_
  show xEv (222, 4, [some (13, a0), some (0, a1), some (0, a2)], [(0, (fQ_isPrison a0 M))], M) _
  refine xEvG_n xml xfetch 1 (y := (222, if (fQ_isPrison a0 M) = 0 then 35 else 7, [some (13, a0), some (0, a1), some (0, a2)], [], M)) rfl trivial ?_
  refine xEvG_br xml xfetch (fun c_ => ?_) (fun c_ => ?_)
  · have h := xif_t c_ h
    refine xEvG_n xml xfetch 1 (y := (222, 36, [some (13, a0), some (0, a1), some (0, a2)], [(0, 0)], M)) rfl trivial ?_
    subst h
    exact xEvG_retc xml xfetch rfl (Or.inl rfl)
  · have h := xif_f c_ h
    refine xEvG_n xml xfetch 4 (y := (222, 13, [some (13, a0), some (0, a1), some (0, a2)], [(1, 2000000000), (1, 0), (1, a1)], M)) rfl trivial ?_
    refine xEvG_call xml xfetch (q := (some (0, fQ_in a1 0 2000000000 M), M)) rfl (hQ_in a1 0 2000000000 M _ rfl) ?_
    show xEv (222, 16, [some (13, a0), some (0, a1), some (0, a2)], [(0, (fQ_in a1 0 2000000000 M))], M) _
    refine xEvG_n xml xfetch 1 (y := (222, if (fQ_in a1 0 2000000000 M) = 0 then 35 else 19, [some (13, a0), some (0, a1), some (0, a2)], [], M)) rfl trivial ?_
    refine xEvG_br xml xfetch (fun c_ => ?_) (fun c_ => ?_)
    · have h := xif_t c_ h
      refine xEvG_n xml xfetch 1 (y := (222, 36, [some (13, a0), some (0, a1), some (0, a2)], [(0, 0)], M)) rfl trivial ?_
      subst h
      exact xEvG_retc xml xfetch rfl (Or.inl rfl)
    · have h := xif_f c_ h
      refine xEvG_n xml xfetch 4 (y := (222, 25, [some (13, a0), some (0, a1), some (0, a2)], [(1, 100), (1, 0), (1, a2)], M)) rfl trivial ?_
      refine xEvG_call xml xfetch (q := (some (0, fQ_in a2 0 100 M), M)) rfl (hQ_in a2 0 100 M _ rfl) ?_
      show xEv (222, 28, [some (13, a0), some (0, a1), some (0, a2)], [(0, (fQ_in a2 0 100 M))], M) _
      have key_ : xEv (222, 36, [some (13, a0), some (0, a1), some (0, a2)], [(0, (if (fQ_in a2 0 100 M) = 0 then 0 else 1 : Int))], M) (some (0, r), M) := by
        subst h
        exact xEvG_retc xml xfetch rfl (by (repeat' split) <;> first | exact Or.inl rfl | exact Or.inr rfl)
      refine xEvG_n xml xfetch 1 (y := (222, if (fQ_in a2 0 100 M) = 0 then 35 else 31, [some (13, a0), some (0, a1), some (0, a2)], [], M)) rfl trivial ?_
      refine xEvG_br xml xfetch (fun c6_ => ?_) (fun c6_ => ?_)
      · refine xEvG_n xml xfetch 1 (y := (222, 36, [some (13, a0), some (0, a1), some (0, a2)], [(0, 0)], M)) rfl trivial ?_
        try simp only [if_pos c6_] at key_
        try simp only [if_pos c6_]
        exact key_
      · refine xEvG_n xml xfetch 2 (y := (222, 36, [some (13, a0), some (0, a1), some (0, a2)], [(0, 1)], M)) rfl trivial ?_
        try simp only [if_neg c6_] at key_
        try simp only [if_neg c6_]
        exact key_
theorem bQ_isDraw (a0 a1 a2 : Int) (M : xM) : fQ_isDraw a0 a1 a2 M = 0 ∨ fQ_isDraw a0 a1 a2 M = 1 := by
  unfold fQ_isDraw
  (repeat' split) <;> first | exact Or.inl rfl | exact Or.inr rfl | exact bD_isDrawing _ _ _ | exact bD_isPoints _ _ | exact bD_isSide _ _ | exact bD_isSlot _ _ | exact bPrison_hasCell _ _ _ | exact bPrison_hasHour _ _ _ | exact bPrison_stands _ _ | exact bQ_in _ _ _ _ | exact bQ_is _ _ _ | exact bQ_isBit _ _ _ | exact bQ_isCell _ _ _ | exact bQ_isGood _ _ | exact bQ_isHour _ _ _ | exact bQ_isPrison _ _ | exact bQ_isSide _ _ | exact bQ_isSlot _ _ | exact bSlot_holds _ _ _ _ | exact bSlot_isBelow _ _ _

def fQ_draws_L40 (k_15 : Int → Int → Int → Int → xM → Option xM) : Nat → Int → Int → Int → Int → Int → Int → xM → Option xM
  | 0, _, _, _, _, _, _, _ => none
  | g + 1, x0, x3, x4, x6, x7, x8, M => if x8 < (M (x0 + 7) 0) then (if (xcmpL (xrem (xdivL (xrem (xw64 ((xw64 (1103515245 * x4)) + 12345)) 2147483648) 65536) 100) x3) < 0 then (xA (0 ≤ x6 ∧ x6 < 24) (xA (0 ≤ x6 ∧ x6 < 24) (if x7 = 0 then (xB (fQ_sleepsTold x0 x8 x6 (xwr M (x0 + 13) x6 (xor32 (M (x0 + 13) x6) (xshl 1 x8)))) (fun v2 => if v2 = 0 then ((fQ_draws_L40 k_15 g) x0 x3 (xrem (xw64 ((xw64 (1103515245 * x4)) + 12345)) 2147483648) x6 1 (xw32 (x8 + 1)) (xwr M (x0 + 13) x6 (xor32 (M (x0 + 13) x6) (xshl 1 x8)))) else ((fQ_draws_L40 k_15 g) x0 x3 (xrem (xw64 ((xw64 (1103515245 * x4)) + 12345)) 2147483648) x6 0 (xw32 (x8 + 1)) (xwr M (x0 + 13) x6 (xor32 (M (x0 + 13) x6) (xshl 1 x8)))))) else ((fQ_draws_L40 k_15 g) x0 x3 (xrem (xw64 ((xw64 (1103515245 * x4)) + 12345)) 2147483648) x6 1 (xw32 (x8 + 1)) (xwr M (x0 + 13) x6 (xor32 (M (x0 + 13) x6) (xshl 1 x8))))))) else ((fQ_draws_L40 k_15 g) x0 x3 (xrem (xw64 ((xw64 (1103515245 * x4)) + 12345)) 2147483648) x6 x7 (xw32 (x8 + 1)) M)) else (if x7 = 0 then (k_15 x0 x3 x4 (xw32 (x6 + 1)) (xwr M x0 46 (xw32 ((M x0 46) + 0)))) else (k_15 x0 x3 x4 (xw32 (x6 + 1)) (xwr M x0 46 (xw32 ((M x0 46) + 1)))))
theorem hQ_draws_L40 (k_15 : Int → Int → Int → Int → xM → Option xM) (hk_15 : ∀ (x0 x3 x4 x6 : Int) (M : xM) (r : xM), k_15 x0 x3 x4 x6 M = some r → xEv (221, 15, [some (13, x0), none, none, some (0, x3), some (1, x4), none, some (0, x6), none, none], [], M) (none, r)) : ∀ (g : Nat) (x0 x3 x4 x6 x7 x8 : Int) (M : xM) (r : xM) (h : fQ_draws_L40 k_15 g x0 x3 x4 x6 x7 x8 M = some r), xEv (221, 40, [some (13, x0), none, none, some (0, x3), some (1, x4), none, some (0, x6), some (0, x7), some (0, x8)], [], M) (none, r)
  | 0, _, _, _, _, _, _, _, _, h => by cases h
  | g + 1, x0, x3, x4, x6, x7, x8, M, r, h => by
    unfold fQ_draws_L40 at h
    refine xEvG_n xml xfetch 6 (y := (221, if x8 < (M (x0 + 7) 0) then 51 else 129, [some (13, x0), none, none, some (0, x3), some (1, x4), none, some (0, x6), some (0, x7), some (0, x8)], [], M)) rfl ⟨by decide, trivial⟩ ?_
    refine xEvG_br xml xfetch (fun c_ => ?_) (fun c_ => ?_)
    · have h := xif_t c_ h
      refine xEvG_n xml xfetch 17 (y := (221, if (xcmpL (xrem (xdivL (xrem (xw64 ((xw64 (1103515245 * x4)) + 12345)) 2147483648) 65536) 100) x3) < 0 then 86 else 83, [some (13, x0), none, none, some (0, x3), some (1, (xrem (xw64 ((xw64 (1103515245 * x4)) + 12345)) 2147483648)), none, some (0, x6), some (0, x7), some (0, x8)], [], M)) rfl ⟨by decide, by decide, by decide, trivial⟩ ?_
      refine xEvG_br xml xfetch (fun c_ => ?_) (fun c_ => ?_)
      · have h := xif_t c_ h
        have a0_ := (xA_t h).1
        have h := (xA_t h).2
        have a1_ := (xA_t h).1
        have h := (xA_t h).2
        refine xEvG_n xml xfetch 12 (y := (221, if x7 = 0 then 105 else 116, [some (13, x0), none, none, some (0, x3), some (1, (xrem (xw64 ((xw64 (1103515245 * x4)) + 12345)) 2147483648)), none, some (0, x6), some (0, x7), some (0, x8)], [], (xwr M (x0 + 13) x6 (xor32 (M (x0 + 13) x6) (xshl 1 x8))))) rfl ⟨a0_, a1_, trivial⟩ ?_
        refine xEvG_br xml xfetch (fun c_ => ?_) (fun c_ => ?_)
        · have h := xif_t c_ h
          refine xEvG_n xml xfetch 3 (y := (221, 110, [some (13, x0), none, none, some (0, x3), some (1, (xrem (xw64 ((xw64 (1103515245 * x4)) + 12345)) 2147483648)), none, some (0, x6), some (0, x7), some (0, x8)], [(0, x6), (0, x8), (13, x0)], (xwr M (x0 + 13) x6 (xor32 (M (x0 + 13) x6) (xshl 1 x8))))) rfl trivial ?_
          obtain ⟨v2, e_, h⟩ := xB_t h
          refine xEvG_call xml xfetch (q := (some (0, v2), (xwr M (x0 + 13) x6 (xor32 (M (x0 + 13) x6) (xshl 1 x8))))) rfl (hQ_sleepsTold x0 x8 x6 (xwr M (x0 + 13) x6 (xor32 (M (x0 + 13) x6) (xshl 1 x8))) _ e_) ?_
          show xEv (221, 113, [some (13, x0), none, none, some (0, x3), some (1, (xrem (xw64 ((xw64 (1103515245 * x4)) + 12345)) 2147483648)), none, some (0, x6), some (0, x7), some (0, x8)], [(0, v2)], (xwr M (x0 + 13) x6 (xor32 (M (x0 + 13) x6) (xshl 1 x8)))) _
          refine xEvG_n xml xfetch 1 (y := (221, if v2 = 0 then 116 else 120, [some (13, x0), none, none, some (0, x3), some (1, (xrem (xw64 ((xw64 (1103515245 * x4)) + 12345)) 2147483648)), none, some (0, x6), some (0, x7), some (0, x8)], [], (xwr M (x0 + 13) x6 (xor32 (M (x0 + 13) x6) (xshl 1 x8))))) rfl trivial ?_
          refine xEvG_br xml xfetch (fun c_ => ?_) (fun c_ => ?_)
          · have h := xif_t c_ h
            refine xEvG_n xml xfetch 5 (y := (221, 40, [some (13, x0), none, none, some (0, x3), some (1, (xrem (xw64 ((xw64 (1103515245 * x4)) + 12345)) 2147483648)), none, some (0, x6), some (0, 1), some (0, (xw32 (x8 + 1)))], [], (xwr M (x0 + 13) x6 (xor32 (M (x0 + 13) x6) (xshl 1 x8))))) rfl trivial ?_
            refine xEvG_mask xml xfetch [true, false, false, true, true, false, true, true, true] ?_
            exact (hQ_draws_L40 k_15 hk_15 g) x0 x3 (xrem (xw64 ((xw64 (1103515245 * x4)) + 12345)) 2147483648) x6 1 (xw32 (x8 + 1)) (xwr M (x0 + 13) x6 (xor32 (M (x0 + 13) x6) (xshl 1 x8))) _ h
          · have h := xif_f c_ h
            refine xEvG_n xml xfetch 4 (y := (221, 40, [some (13, x0), none, none, some (0, x3), some (1, (xrem (xw64 ((xw64 (1103515245 * x4)) + 12345)) 2147483648)), none, some (0, x6), some (0, 0), some (0, (xw32 (x8 + 1)))], [], (xwr M (x0 + 13) x6 (xor32 (M (x0 + 13) x6) (xshl 1 x8))))) rfl trivial ?_
            refine xEvG_mask xml xfetch [true, false, false, true, true, false, true, true, true] ?_
            exact (hQ_draws_L40 k_15 hk_15 g) x0 x3 (xrem (xw64 ((xw64 (1103515245 * x4)) + 12345)) 2147483648) x6 0 (xw32 (x8 + 1)) (xwr M (x0 + 13) x6 (xor32 (M (x0 + 13) x6) (xshl 1 x8))) _ h
        · have h := xif_f c_ h
          refine xEvG_n xml xfetch 5 (y := (221, 40, [some (13, x0), none, none, some (0, x3), some (1, (xrem (xw64 ((xw64 (1103515245 * x4)) + 12345)) 2147483648)), none, some (0, x6), some (0, 1), some (0, (xw32 (x8 + 1)))], [], (xwr M (x0 + 13) x6 (xor32 (M (x0 + 13) x6) (xshl 1 x8))))) rfl trivial ?_
          refine xEvG_mask xml xfetch [true, false, false, true, true, false, true, true, true] ?_
          exact (hQ_draws_L40 k_15 hk_15 g) x0 x3 (xrem (xw64 ((xw64 (1103515245 * x4)) + 12345)) 2147483648) x6 1 (xw32 (x8 + 1)) (xwr M (x0 + 13) x6 (xor32 (M (x0 + 13) x6) (xshl 1 x8))) _ h
      · have h := xif_f c_ h
        refine xEvG_n xml xfetch 3 (y := (221, 40, [some (13, x0), none, none, some (0, x3), some (1, (xrem (xw64 ((xw64 (1103515245 * x4)) + 12345)) 2147483648)), none, some (0, x6), some (0, x7), some (0, (xw32 (x8 + 1)))], [], M)) rfl trivial ?_
        refine xEvG_mask xml xfetch [true, false, false, true, true, false, true, true, true] ?_
        exact (hQ_draws_L40 k_15 hk_15 g) x0 x3 (xrem (xw64 ((xw64 (1103515245 * x4)) + 12345)) 2147483648) x6 x7 (xw32 (x8 + 1)) M _ h
    · have h := xif_f c_ h
      refine xEvG_n xml xfetch 5 (y := (221, if x7 = 0 then 143 else 139, [some (13, x0), none, none, some (0, x3), some (1, x4), none, some (0, x6), some (0, x7), some (0, x8)], [(0, (M x0 46)), (13, x0)], M)) rfl trivial ?_
      refine xEvG_br xml xfetch (fun c_ => ?_) (fun c_ => ?_)
      · have h := xif_t c_ h
        refine xEvG_n xml xfetch 5 (y := (221, 15, [some (13, x0), none, none, some (0, x3), some (1, x4), none, some (0, (xw32 (x6 + 1))), some (0, x7), some (0, x8)], [], (xwr M x0 46 (xw32 ((M x0 46) + 0))))) rfl trivial ?_
        refine xEvG_mask xml xfetch [true, false, false, true, true, false, true, false, false] ?_
        exact hk_15 x0 x3 x4 (xw32 (x6 + 1)) (xwr M x0 46 (xw32 ((M x0 46) + 0))) _ h
      · have h := xif_f c_ h
        refine xEvG_n xml xfetch 6 (y := (221, 15, [some (13, x0), none, none, some (0, x3), some (1, x4), none, some (0, (xw32 (x6 + 1))), some (0, x7), some (0, x8)], [], (xwr M x0 46 (xw32 ((M x0 46) + 1))))) rfl trivial ?_
        refine xEvG_mask xml xfetch [true, false, false, true, true, false, true, false, false] ?_
        exact hk_15 x0 x3 x4 (xw32 (x6 + 1)) (xwr M x0 46 (xw32 ((M x0 46) + 1))) _ h
def fQ_draws_L15 : Nat → Int → Int → Int → Int → xM → Option xM
  | 0, _, _, _, _, _ => none
  | g + 1, x0, x3, x4, x6, M => if x6 < (M (x0 + 7) 1) then (xA (0 ≤ x6 ∧ x6 < 24) (fQ_draws_L40 (fQ_draws_L15 g) 20001 x0 x3 x4 x6 0 0 (xwr M (x0 + 13) x6 0))) else (xB (fQ_laysWould x0 (xwr M x0 35 1)) (fun m3 => xB (fQ_goes x0 m3) (fun m4 => some m4)))
theorem hQ_draws_L15 : ∀ (g : Nat) (x0 x3 x4 x6 : Int) (M : xM) (r : xM) (h : fQ_draws_L15 g x0 x3 x4 x6 M = some r), xEv (221, 15, [some (13, x0), none, none, some (0, x3), some (1, x4), none, some (0, x6), none, none], [], M) (none, r)
  | 0, _, _, _, _, _, _, h => by cases h
  | g + 1, x0, x3, x4, x6, M, r, h => by
    unfold fQ_draws_L15 at h
    refine xEvG_n xml xfetch 6 (y := (221, if x6 < (M (x0 + 7) 1) then 26 else 154, [some (13, x0), none, none, some (0, x3), some (1, x4), none, some (0, x6), none, none], [], M)) rfl ⟨by decide, trivial⟩ ?_
    refine xEvG_br xml xfetch (fun c_ => ?_) (fun c_ => ?_)
    · have h := xif_t c_ h
      have a0_ := (xA_t h).1
      have h := (xA_t h).2
      refine xEvG_n xml xfetch 9 (y := (221, 40, [some (13, x0), none, none, some (0, x3), some (1, x4), none, some (0, x6), some (0, 0), some (0, 0)], [], (xwr M (x0 + 13) x6 0))) rfl ⟨a0_, trivial⟩ ?_
      refine xEvG_mask xml xfetch [true, false, false, true, true, false, true, true, true] ?_
      exact hQ_draws_L40 (fQ_draws_L15 g) (hQ_draws_L15 g) 20001 x0 x3 x4 x6 0 0 (xwr M (x0 + 13) x6 0) _ h
    · have h := xif_f c_ h
      refine xEvG_n xml xfetch 4 (y := (221, 160, [some (13, x0), none, none, some (0, x3), some (1, x4), none, some (0, x6), none, none], [(13, x0)], (xwr M x0 35 1))) rfl ⟨(Or.inr rfl), trivial⟩ ?_
      obtain ⟨m3, e_, h⟩ := xB_t h
      refine xEvG_call xml xfetch (q := (none, m3)) rfl (hQ_laysWould x0 (xwr M x0 35 1) _ e_) ?_
      show xEv (221, 163, [some (13, x0), none, none, some (0, x3), some (1, x4), none, some (0, x6), none, none], [], m3) _
      refine xEvG_n xml xfetch 1 (y := (221, 164, [some (13, x0), none, none, some (0, x3), some (1, x4), none, some (0, x6), none, none], [(13, x0)], m3)) rfl trivial ?_
      obtain ⟨m4, e_, h⟩ := xB_t h
      refine xEvG_call xml xfetch (q := (none, m4)) rfl (hQ_goes x0 m3 _ e_) ?_
      show xEv (221, 167, [some (13, x0), none, none, some (0, x3), some (1, x4), none, some (0, x6), none, none], [], m4) _
      cases h
      exact xEvG_ret xml xfetch rfl
/-- ConsentDoorsModel.draws(JI)V -/
def fQ_draws (a0 a1 a2 : Int) (M : xM) : Option xM := fQ_draws_L15 20001 a0 a2 a1 0 (xwr (fQ_plainly a0 M) a0 46 0)
theorem hQ_draws (a0 a1 a2 : Int) (M : xM) (r : xM) (h : fQ_draws a0 a1 a2 M = some r) : xEv (221, 0, [some (13, a0), some (1, a1), none, some (0, a2), none, none, none, none, none], [], M) (none, r) := by
  unfold fQ_draws at h
  refine xEvG_n xml xfetch 1 (y := (221, 1, [some (13, a0), some (1, a1), none, some (0, a2), none, none, none, none, none], [(13, a0)], M)) rfl trivial ?_
  refine xEvG_call xml xfetch (q := (none, fQ_plainly a0 M)) rfl (hQ_plainly a0 M _ rfl) ?_
  show xEv (221, 4, [some (13, a0), some (1, a1), none, some (0, a2), none, none, none, none, none], [], (fQ_plainly a0 M)) _
  refine xEvG_n xml xfetch 7 (y := (221, 15, [some (13, a0), some (1, a1), none, some (0, a2), some (1, a1), none, some (0, 0), none, none], [], (xwr (fQ_plainly a0 M) a0 46 0))) rfl trivial ?_
  refine xEvG_mask xml xfetch [true, false, false, true, true, false, true, false, false] ?_
  exact hQ_draws_L15 20001 a0 a2 a1 0 (xwr (fQ_plainly a0 M) a0 46 0) _ h

/-- ConsentDoorsModel.drawn(III)I -/
def fQ_drawn (a0 a1 a2 a3 : Int) (M : xM) : Option (Int × xM) := if (fQ_isDraw a0 a1 a2 (xwr M a0 0 0)) = 0 then (some ((-2), (xwr M a0 0 0))) else (if (fQ_in a3 0 2 (xwr M a0 0 0)) = 0 then (some ((-2), (xwr M a0 0 0))) else (xB (fQ_draws a0 a1 a2 (xwr M a0 0 0)) (fun m3 => if a3 = 0 then (xA (0 ≤ (xw32 ((m3 (a0 + 7) 1) - 1)) ∧ (xw32 ((m3 (a0 + 7) 1) - 1)) < 24) (some ((m3 (a0 + 16) (xw32 ((m3 (a0 + 7) 1) - 1))), m3))) else (if a3 = 1 then (xB (fQ_mostNow a0 m3) (fun q_ => match q_ with | (v4, m4) => some (v4, m4))) else (some ((m3 a0 46), m3))))))
theorem hQ_drawn (a0 a1 a2 a3 : Int) (M : xM) (r : Int × xM) (h : fQ_drawn a0 a1 a2 a3 M = some r) : xEv (223, 0, [some (13, a0), some (0, a1), some (0, a2), some (0, a3)], [], M) (some (0, r.1), r.2) := by
  unfold fQ_drawn at h
  refine xEvG_n xml xfetch 6 (y := (223, 8, [some (13, a0), some (0, a1), some (0, a2), some (0, a3)], [(0, a2), (0, a1), (13, a0)], (xwr M a0 0 0))) rfl trivial ?_
  refine xEvG_call xml xfetch (q := (some (0, fQ_isDraw a0 a1 a2 (xwr M a0 0 0)), (xwr M a0 0 0))) rfl (hQ_isDraw a0 a1 a2 (xwr M a0 0 0) _ rfl) ?_
  show xEv (223, 11, [some (13, a0), some (0, a1), some (0, a2), some (0, a3)], [(0, (fQ_isDraw a0 a1 a2 (xwr M a0 0 0)))], (xwr M a0 0 0)) _
  refine xEvG_n xml xfetch 1 (y := (223, if (fQ_isDraw a0 a1 a2 (xwr M a0 0 0)) = 0 then 26 else 14, [some (13, a0), some (0, a1), some (0, a2), some (0, a3)], [], (xwr M a0 0 0))) rfl trivial ?_
  refine xEvG_br xml xfetch (fun c_ => ?_) (fun c_ => ?_)
  · have h := xif_t c_ h
    refine xEvG_n xml xfetch 1 (y := (223, 28, [some (13, a0), some (0, a1), some (0, a2), some (0, a3)], [(0, (-2))], (xwr M a0 0 0))) rfl trivial ?_
    cases h
    exact xEvG_ret xml xfetch rfl
  · have h := xif_f c_ h
    refine xEvG_n xml xfetch 4 (y := (223, 20, [some (13, a0), some (0, a1), some (0, a2), some (0, a3)], [(1, 2), (1, 0), (1, a3)], (xwr M a0 0 0))) rfl trivial ?_
    refine xEvG_call xml xfetch (q := (some (0, fQ_in a3 0 2 (xwr M a0 0 0)), (xwr M a0 0 0))) rfl (hQ_in a3 0 2 (xwr M a0 0 0) _ rfl) ?_
    show xEv (223, 23, [some (13, a0), some (0, a1), some (0, a2), some (0, a3)], [(0, (fQ_in a3 0 2 (xwr M a0 0 0)))], (xwr M a0 0 0)) _
    refine xEvG_n xml xfetch 1 (y := (223, if (fQ_in a3 0 2 (xwr M a0 0 0)) = 0 then 26 else 29, [some (13, a0), some (0, a1), some (0, a2), some (0, a3)], [], (xwr M a0 0 0))) rfl trivial ?_
    refine xEvG_br xml xfetch (fun c_ => ?_) (fun c_ => ?_)
    · have h := xif_t c_ h
      refine xEvG_n xml xfetch 1 (y := (223, 28, [some (13, a0), some (0, a1), some (0, a2), some (0, a3)], [(0, (-2))], (xwr M a0 0 0))) rfl trivial ?_
      cases h
      exact xEvG_ret xml xfetch rfl
    · have h := xif_f c_ h
      refine xEvG_n xml xfetch 4 (y := (223, 33, [some (13, a0), some (0, a1), some (0, a2), some (0, a3)], [(0, a2), (1, a1), (13, a0)], (xwr M a0 0 0))) rfl trivial ?_
      obtain ⟨m3, e_, h⟩ := xB_t h
      refine xEvG_call xml xfetch (q := (none, m3)) rfl (hQ_draws a0 a1 a2 (xwr M a0 0 0) _ e_) ?_
      show xEv (223, 36, [some (13, a0), some (0, a1), some (0, a2), some (0, a3)], [], m3) _
      refine xEvG_n xml xfetch 2 (y := (223, if a3 = 0 then 40 else 56, [some (13, a0), some (0, a1), some (0, a2), some (0, a3)], [], m3)) rfl trivial ?_
      refine xEvG_br xml xfetch (fun c_ => ?_) (fun c_ => ?_)
      · have h := xif_t c_ h
        have a1_ := (xA_t h).1
        have h := (xA_t h).2
        refine xEvG_n xml xfetch 10 (y := (223, 72, [some (13, a0), some (0, a1), some (0, a2), some (0, a3)], [(0, (m3 (a0 + 16) (xw32 ((m3 (a0 + 7) 1) - 1))))], m3)) rfl ⟨by decide, a1_, trivial⟩ ?_
        cases h
        exact xEvG_ret xml xfetch rfl
      · have h := xif_f c_ h
        refine xEvG_n xml xfetch 3 (y := (223, if a3 = 1 then 61 else 68, [some (13, a0), some (0, a1), some (0, a2), some (0, a3)], [], m3)) rfl trivial ?_
        refine xEvG_br xml xfetch (fun c_ => ?_) (fun c_ => ?_)
        · have h := xif_t c_ h
          refine xEvG_n xml xfetch 1 (y := (223, 62, [some (13, a0), some (0, a1), some (0, a2), some (0, a3)], [(13, a0)], m3)) rfl trivial ?_
          obtain ⟨⟨v4, m4⟩, e_, h⟩ := xB_t h
          refine xEvG_call xml xfetch (q := (some (0, v4), m4)) rfl (hQ_mostNow a0 m3 _ e_) ?_
          show xEv (223, 65, [some (13, a0), some (0, a1), some (0, a2), some (0, a3)], [(0, v4)], m4) _
          refine xEvG_n xml xfetch 1 (y := (223, 72, [some (13, a0), some (0, a1), some (0, a2), some (0, a3)], [(0, v4)], m4)) rfl trivial ?_
          cases h
          exact xEvG_ret xml xfetch rfl
        · have h := xif_f c_ h
          refine xEvG_n xml xfetch 2 (y := (223, 72, [some (13, a0), some (0, a1), some (0, a2), some (0, a3)], [(0, (m3 a0 46))], m3)) rfl trivial ?_
          cases h
          exact xEvG_ret xml xfetch rfl

def fQ_chance_L45 : Nat → Int → Int → Int → Int → Int → Int → Int → xM → Option (Int × xM)
  | 0, _, _, _, _, _, _, _, _ => none
  | g + 1, x0, x1, x2, x3, x4, x5, x6, M => if x6 < x2 then (xB (fQ_draws x0 (xw64 (x1 + x6)) x3 M) (fun m4 => xA (0 ≤ (xw32 ((m4 (x0 + 7) 1) - 1)) ∧ (xw32 ((m4 (x0 + 7) 1) - 1)) < 24) (if (fQ_isBit (m4 (x0 + 16) (xw32 ((m4 (x0 + 7) 1) - 1))) x4 m4) = 0 then ((fQ_chance_L45 g) x0 x1 x2 x3 x4 (xw32 (x5 + 0)) (xw32 (x6 + 1)) m4) else ((fQ_chance_L45 g) x0 x1 x2 x3 x4 (xw32 (x5 + 1)) (xw32 (x6 + 1)) m4)))) else (some (x5, M))
theorem hQ_chance_L45 : ∀ (g : Nat) (x0 x1 x2 x3 x4 x5 x6 : Int) (M : xM) (r : Int × xM) (h : fQ_chance_L45 g x0 x1 x2 x3 x4 x5 x6 M = some r), xEv (224, 45, [some (13, x0), some (0, x1), some (0, x2), some (0, x3), some (0, x4), some (0, x5), some (0, x6)], [], M) (some (0, r.1), r.2)
  | 0, _, _, _, _, _, _, _, _, _, h => by cases h
  | g + 1, x0, x1, x2, x3, x4, x5, x6, M, r, h => by
    unfold fQ_chance_L45 at h
    refine xEvG_n xml xfetch 3 (y := (224, if x6 < x2 then 51 else 99, [some (13, x0), some (0, x1), some (0, x2), some (0, x3), some (0, x4), some (0, x5), some (0, x6)], [], M)) rfl trivial ?_
    refine xEvG_br xml xfetch (fun c_ => ?_) (fun c_ => ?_)
    · have h := xif_t c_ h
      refine xEvG_n xml xfetch 7 (y := (224, 59, [some (13, x0), some (0, x1), some (0, x2), some (0, x3), some (0, x4), some (0, x5), some (0, x6)], [(0, x3), (1, (xw64 (x1 + x6))), (13, x0)], M)) rfl trivial ?_
      obtain ⟨m4, e_, h⟩ := xB_t h
      refine xEvG_call xml xfetch (q := (none, m4)) rfl (hQ_draws x0 (xw64 (x1 + x6)) x3 M _ e_) ?_
      show xEv (224, 62, [some (13, x0), some (0, x1), some (0, x2), some (0, x3), some (0, x4), some (0, x5), some (0, x6)], [], m4) _
      have a1_ := (xA_t h).1
      have h := (xA_t h).2
      refine xEvG_n xml xfetch 11 (y := (224, 79, [some (13, x0), some (0, x1), some (0, x2), some (0, x3), some (0, x4), some (0, x5), some (0, x6)], [(0, x4), (0, (m4 (x0 + 16) (xw32 ((m4 (x0 + 7) 1) - 1)))), (0, x5)], m4)) rfl ⟨by decide, a1_, trivial⟩ ?_
      refine xEvG_call xml xfetch (q := (some (0, fQ_isBit (m4 (x0 + 16) (xw32 ((m4 (x0 + 7) 1) - 1))) x4 m4), m4)) rfl (hQ_isBit (m4 (x0 + 16) (xw32 ((m4 (x0 + 7) 1) - 1))) x4 m4 _ rfl) ?_
      show xEv (224, 82, [some (13, x0), some (0, x1), some (0, x2), some (0, x3), some (0, x4), some (0, x5), some (0, x6)], [(0, (fQ_isBit (m4 (x0 + 16) (xw32 ((m4 (x0 + 7) 1) - 1))) x4 m4)), (0, x5)], m4) _
      refine xEvG_n xml xfetch 1 (y := (224, if (fQ_isBit (m4 (x0 + 16) (xw32 ((m4 (x0 + 7) 1) - 1))) x4 m4) = 0 then 89 else 85, [some (13, x0), some (0, x1), some (0, x2), some (0, x3), some (0, x4), some (0, x5), some (0, x6)], [(0, x5)], m4)) rfl trivial ?_
      refine xEvG_br xml xfetch (fun c_ => ?_) (fun c_ => ?_)
      · have h := xif_t c_ h
        refine xEvG_n xml xfetch 5 (y := (224, 45, [some (13, x0), some (0, x1), some (0, x2), some (0, x3), some (0, x4), some (0, (xw32 (x5 + 0))), some (0, (xw32 (x6 + 1)))], [], m4)) rfl trivial ?_
        refine xEvG_mask xml xfetch [true, true, true, true, true, true, true] ?_
        exact (hQ_chance_L45 g) x0 x1 x2 x3 x4 (xw32 (x5 + 0)) (xw32 (x6 + 1)) m4 _ h
      · have h := xif_f c_ h
        refine xEvG_n xml xfetch 6 (y := (224, 45, [some (13, x0), some (0, x1), some (0, x2), some (0, x3), some (0, x4), some (0, (xw32 (x5 + 1))), some (0, (xw32 (x6 + 1)))], [], m4)) rfl trivial ?_
        refine xEvG_mask xml xfetch [true, true, true, true, true, true, true] ?_
        exact (hQ_chance_L45 g) x0 x1 x2 x3 x4 (xw32 (x5 + 1)) (xw32 (x6 + 1)) m4 _ h
    · have h := xif_f c_ h
      refine xEvG_n xml xfetch 1 (y := (224, 101, [some (13, x0), some (0, x1), some (0, x2), some (0, x3), some (0, x4), some (0, x5), some (0, x6)], [(0, x5)], M)) rfl trivial ?_
      cases h
      exact xEvG_ret xml xfetch rfl
/-- ConsentDoorsModel.chance(IIII)I -/
def fQ_chance (a0 a1 a2 a3 a4 : Int) (M : xM) : Option (Int × xM) := if (fQ_isDraw a0 a1 a3 (xwr M a0 0 0)) = 0 then (some ((-2), (xwr M a0 0 0))) else (if (fQ_in a2 1 20 (xwr M a0 0 0)) = 0 then (some ((-2), (xwr M a0 0 0))) else (if (fQ_isCell a0 a4 (xwr M a0 0 0)) = 0 then (some ((-2), (xwr M a0 0 0))) else (fQ_chance_L45 20001 a0 a1 a2 a3 a4 0 0 (xwr M a0 0 0))))
theorem hQ_chance (a0 a1 a2 a3 a4 : Int) (M : xM) (r : Int × xM) (h : fQ_chance a0 a1 a2 a3 a4 M = some r) : xEv (224, 0, [some (13, a0), some (0, a1), some (0, a2), some (0, a3), some (0, a4), none, none], [], M) (some (0, r.1), r.2) := by
  unfold fQ_chance at h
  refine xEvG_n xml xfetch 6 (y := (224, 8, [some (13, a0), some (0, a1), some (0, a2), some (0, a3), some (0, a4), none, none], [(0, a3), (0, a1), (13, a0)], (xwr M a0 0 0))) rfl trivial ?_
  refine xEvG_call xml xfetch (q := (some (0, fQ_isDraw a0 a1 a3 (xwr M a0 0 0)), (xwr M a0 0 0))) rfl (hQ_isDraw a0 a1 a3 (xwr M a0 0 0) _ rfl) ?_
  show xEv (224, 11, [some (13, a0), some (0, a1), some (0, a2), some (0, a3), some (0, a4), none, none], [(0, (fQ_isDraw a0 a1 a3 (xwr M a0 0 0)))], (xwr M a0 0 0)) _
  refine xEvG_n xml xfetch 1 (y := (224, if (fQ_isDraw a0 a1 a3 (xwr M a0 0 0)) = 0 then 36 else 14, [some (13, a0), some (0, a1), some (0, a2), some (0, a3), some (0, a4), none, none], [], (xwr M a0 0 0))) rfl trivial ?_
  refine xEvG_br xml xfetch (fun c_ => ?_) (fun c_ => ?_)
  · have h := xif_t c_ h
    refine xEvG_n xml xfetch 1 (y := (224, 38, [some (13, a0), some (0, a1), some (0, a2), some (0, a3), some (0, a4), none, none], [(0, (-2))], (xwr M a0 0 0))) rfl trivial ?_
    cases h
    exact xEvG_ret xml xfetch rfl
  · have h := xif_f c_ h
    refine xEvG_n xml xfetch 4 (y := (224, 20, [some (13, a0), some (0, a1), some (0, a2), some (0, a3), some (0, a4), none, none], [(1, 20), (1, 1), (1, a2)], (xwr M a0 0 0))) rfl trivial ?_
    refine xEvG_call xml xfetch (q := (some (0, fQ_in a2 1 20 (xwr M a0 0 0)), (xwr M a0 0 0))) rfl (hQ_in a2 1 20 (xwr M a0 0 0) _ rfl) ?_
    show xEv (224, 23, [some (13, a0), some (0, a1), some (0, a2), some (0, a3), some (0, a4), none, none], [(0, (fQ_in a2 1 20 (xwr M a0 0 0)))], (xwr M a0 0 0)) _
    refine xEvG_n xml xfetch 1 (y := (224, if (fQ_in a2 1 20 (xwr M a0 0 0)) = 0 then 36 else 26, [some (13, a0), some (0, a1), some (0, a2), some (0, a3), some (0, a4), none, none], [], (xwr M a0 0 0))) rfl trivial ?_
    refine xEvG_br xml xfetch (fun c_ => ?_) (fun c_ => ?_)
    · have h := xif_t c_ h
      refine xEvG_n xml xfetch 1 (y := (224, 38, [some (13, a0), some (0, a1), some (0, a2), some (0, a3), some (0, a4), none, none], [(0, (-2))], (xwr M a0 0 0))) rfl trivial ?_
      cases h
      exact xEvG_ret xml xfetch rfl
    · have h := xif_f c_ h
      refine xEvG_n xml xfetch 3 (y := (224, 30, [some (13, a0), some (0, a1), some (0, a2), some (0, a3), some (0, a4), none, none], [(1, a4), (13, a0)], (xwr M a0 0 0))) rfl trivial ?_
      refine xEvG_call xml xfetch (q := (some (0, fQ_isCell a0 a4 (xwr M a0 0 0)), (xwr M a0 0 0))) rfl (hQ_isCell a0 a4 (xwr M a0 0 0) _ rfl) ?_
      show xEv (224, 33, [some (13, a0), some (0, a1), some (0, a2), some (0, a3), some (0, a4), none, none], [(0, (fQ_isCell a0 a4 (xwr M a0 0 0)))], (xwr M a0 0 0)) _
      refine xEvG_n xml xfetch 1 (y := (224, if (fQ_isCell a0 a4 (xwr M a0 0 0)) = 0 then 36 else 39, [some (13, a0), some (0, a1), some (0, a2), some (0, a3), some (0, a4), none, none], [], (xwr M a0 0 0))) rfl trivial ?_
      refine xEvG_br xml xfetch (fun c_ => ?_) (fun c_ => ?_)
      · have h := xif_t c_ h
        refine xEvG_n xml xfetch 1 (y := (224, 38, [some (13, a0), some (0, a1), some (0, a2), some (0, a3), some (0, a4), none, none], [(0, (-2))], (xwr M a0 0 0))) rfl trivial ?_
        cases h
        exact xEvG_ret xml xfetch rfl
      · have h := xif_f c_ h
        refine xEvG_n xml xfetch 4 (y := (224, 45, [some (13, a0), some (0, a1), some (0, a2), some (0, a3), some (0, a4), some (0, 0), some (0, 0)], [], (xwr M a0 0 0))) rfl trivial ?_
        refine xEvG_mask xml xfetch [true, true, true, true, true, true, true] ?_
        exact hQ_chance_L45 20001 a0 a1 a2 a3 a4 0 0 (xwr M a0 0 0) _ h

def fQ_count_L124 : Nat → Int → Int → Int → xM → Option (Int × xM)
  | 0, _, _, _, _ => none
  | g + 1, x0, x2, x3, M => if x3 < (M (x0 + 7) 1) then (xA (0 ≤ x3 ∧ x3 < 120) (if (M (x0 + 11) x3) = (-1) then ((fQ_count_L124 g) x0 (xw32 (x2 + 0)) (xw32 (x3 + 1)) M) else ((fQ_count_L124 g) x0 (xw32 (x2 + 1)) (xw32 (x3 + 1)) M))) else (some (x2, M))
theorem hQ_count_L124 : ∀ (g : Nat) (x0 x2 x3 : Int) (M : xM) (r : Int × xM) (h : fQ_count_L124 g x0 x2 x3 M = some r), xEv (225, 124, [some (13, x0), none, some (0, x2), some (0, x3)], [], M) (some (0, r.1), r.2)
  | 0, _, _, _, _, _, h => by cases h
  | g + 1, x0, x2, x3, M, r, h => by
    unfold fQ_count_L124 at h
    refine xEvG_n xml xfetch 6 (y := (225, if x3 < (M (x0 + 7) 1) then 134 else 158, [some (13, x0), none, some (0, x2), some (0, x3)], [], M)) rfl ⟨by decide, trivial⟩ ?_
    refine xEvG_br xml xfetch (fun c_ => ?_) (fun c_ => ?_)
    · have h := xif_t c_ h
      have a0_ := (xA_t h).1
      have h := (xA_t h).2
      refine xEvG_n xml xfetch 7 (y := (225, if (M (x0 + 11) x3) = (-1) then 145 else 149, [some (13, x0), none, some (0, x2), some (0, x3)], [(0, x2)], M)) rfl ⟨a0_, trivial⟩ ?_
      refine xEvG_br xml xfetch (fun c_ => ?_) (fun c_ => ?_)
      · have h := xif_t c_ h
        refine xEvG_n xml xfetch 6 (y := (225, 124, [some (13, x0), none, some (0, (xw32 (x2 + 0))), some (0, (xw32 (x3 + 1)))], [], M)) rfl trivial ?_
        refine xEvG_mask xml xfetch [true, false, true, true] ?_
        exact (hQ_count_L124 g) x0 (xw32 (x2 + 0)) (xw32 (x3 + 1)) M _ h
      · have h := xif_f c_ h
        refine xEvG_n xml xfetch 5 (y := (225, 124, [some (13, x0), none, some (0, (xw32 (x2 + 1))), some (0, (xw32 (x3 + 1)))], [], M)) rfl trivial ?_
        refine xEvG_mask xml xfetch [true, false, true, true] ?_
        exact (hQ_count_L124 g) x0 (xw32 (x2 + 1)) (xw32 (x3 + 1)) M _ h
    · have h := xif_f c_ h
      refine xEvG_n xml xfetch 1 (y := (225, 159, [some (13, x0), none, some (0, x2), some (0, x3)], [(0, x2)], M)) rfl trivial ?_
      cases h
      exact xEvG_ret xml xfetch rfl
def fQ_count_L162 : Nat → Int → Int → Int → xM → Option (Int × xM)
  | 0, _, _, _, _ => none
  | g + 1, x0, x2, x3, M => if x3 < 4 then (xA (0 ≤ x3 ∧ x3 < 4) (if (M (x0 + 1) x3) = (-1) then ((fQ_count_L162 g) x0 (xw32 (x2 + 0)) (xw32 (x3 + 1)) M) else ((fQ_count_L162 g) x0 (xw32 (x2 + 1)) (xw32 (x3 + 1)) M))) else (some (x2, M))
theorem hQ_count_L162 : ∀ (g : Nat) (x0 x2 x3 : Int) (M : xM) (r : Int × xM) (h : fQ_count_L162 g x0 x2 x3 M = some r), xEv (225, 162, [some (13, x0), none, some (0, x2), some (0, x3)], [], M) (some (0, r.1), r.2)
  | 0, _, _, _, _, _, h => by cases h
  | g + 1, x0, x2, x3, M, r, h => by
    unfold fQ_count_L162 at h
    refine xEvG_n xml xfetch 3 (y := (225, if x3 < 4 then 167 else 191, [some (13, x0), none, some (0, x2), some (0, x3)], [], M)) rfl trivial ?_
    refine xEvG_br xml xfetch (fun c_ => ?_) (fun c_ => ?_)
    · have h := xif_t c_ h
      have a0_ := (xA_t h).1
      have h := (xA_t h).2
      refine xEvG_n xml xfetch 7 (y := (225, if (M (x0 + 1) x3) = (-1) then 178 else 182, [some (13, x0), none, some (0, x2), some (0, x3)], [(0, x2)], M)) rfl ⟨a0_, trivial⟩ ?_
      refine xEvG_br xml xfetch (fun c_ => ?_) (fun c_ => ?_)
      · have h := xif_t c_ h
        refine xEvG_n xml xfetch 6 (y := (225, 162, [some (13, x0), none, some (0, (xw32 (x2 + 0))), some (0, (xw32 (x3 + 1)))], [], M)) rfl trivial ?_
        refine xEvG_mask xml xfetch [true, false, true, true] ?_
        exact (hQ_count_L162 g) x0 (xw32 (x2 + 0)) (xw32 (x3 + 1)) M _ h
      · have h := xif_f c_ h
        refine xEvG_n xml xfetch 5 (y := (225, 162, [some (13, x0), none, some (0, (xw32 (x2 + 1))), some (0, (xw32 (x3 + 1)))], [], M)) rfl trivial ?_
        refine xEvG_mask xml xfetch [true, false, true, true] ?_
        exact (hQ_count_L162 g) x0 (xw32 (x2 + 1)) (xw32 (x3 + 1)) M _ h
    · have h := xif_f c_ h
      refine xEvG_n xml xfetch 1 (y := (225, 192, [some (13, x0), none, some (0, x2), some (0, x3)], [(0, x2)], M)) rfl trivial ?_
      cases h
      exact xEvG_ret xml xfetch rfl
/-- ConsentDoorsModel.count(I)I -/
def fQ_count (a0 a1 : Int) (M : xM) : Option (Int × xM) := if a1 < 0 then (some ((-1), (xwr M a0 0 0))) else (if (a1 - 0) = 0 then (some (((xwr M a0 0 0) (a0 + 7) 0), (xwr M a0 0 0))) else (if ((a1 - 0) - 1) = 0 then (some (((xwr M a0 0 0) (a0 + 7) 1), (xwr M a0 0 0))) else (if (((a1 - 0) - 1) - 1) = 0 then (xB (fQ_sizeOf ((xwr M a0 0 0) (a0 + 7) 4) (xwr M a0 0 0)) (fun v1 => some (v1, (xwr M a0 0 0)))) else (if ((((a1 - 0) - 1) - 1) - 1) = 0 then (some (((xwr M a0 0 0) (a0 + 7) 5), (xwr M a0 0 0))) else (if (((((a1 - 0) - 1) - 1) - 1) - 1) = 0 then (some (((xwr M a0 0 0) (a0 + 7) 6), (xwr M a0 0 0))) else (if ((((((a1 - 0) - 1) - 1) - 1) - 1) - 1) = 0 then (some (((xwr M a0 0 0) (a0 + 6) 0), (xwr M a0 0 0))) else (if (((((((a1 - 0) - 1) - 1) - 1) - 1) - 1) - 1) = 0 then (some (((xwr M a0 0 0) a0 6), (xwr M a0 0 0))) else (if ((((((((a1 - 0) - 1) - 1) - 1) - 1) - 1) - 1) - 1) = 0 then (some (((xwr M a0 0 0) (a0 + 7) 3), (xwr M a0 0 0))) else (if (((((((((a1 - 0) - 1) - 1) - 1) - 1) - 1) - 1) - 1) - 1) = 0 then (fQ_count_L124 20001 a0 0 0 (xwr M a0 0 0)) else (if ((((((((((a1 - 0) - 1) - 1) - 1) - 1) - 1) - 1) - 1) - 1) - 1) = 0 then (fQ_count_L162 20001 a0 0 0 (xwr M a0 0 0)) else (some ((-1), (xwr M a0 0 0)))))))))))))
theorem hQ_count (a0 a1 : Int) (M : xM) (r : Int × xM) (h : fQ_count a0 a1 M = some r) : xEv (225, 0, [some (13, a0), some (0, a1), none, none], [], M) (some (0, r.1), r.2) := by
  unfold fQ_count at h
  refine xEvG_n xml xfetch 7 (y := (225, (if a1 < 0 then 193 else (if (a1 - 0) = 0 then 64 else (if ((a1 - 0) - 1) = 0 then 71 else (if (((a1 - 0) - 1) - 1) = 0 then 78 else (if ((((a1 - 0) - 1) - 1) - 1) = 0 then 88 else (if (((((a1 - 0) - 1) - 1) - 1) - 1) = 0 then 95 else (if ((((((a1 - 0) - 1) - 1) - 1) - 1) - 1) = 0 then 103 else (if (((((((a1 - 0) - 1) - 1) - 1) - 1) - 1) - 1) = 0 then 110 else (if ((((((((a1 - 0) - 1) - 1) - 1) - 1) - 1) - 1) - 1) = 0 then 115 else (if (((((((((a1 - 0) - 1) - 1) - 1) - 1) - 1) - 1) - 1) - 1) = 0 then 122 else (if ((((((((((a1 - 0) - 1) - 1) - 1) - 1) - 1) - 1) - 1) - 1) - 1) = 0 then 160 else 193))))))))))), [some (13, a0), some (0, a1), some (0, 0), none], [], (xwr M a0 0 0))) rfl trivial ?_
  refine xEvG_br xml xfetch (fun c_ => ?_) (fun c_ => ?_)
  · have h := xif_t c_ h
    refine xEvG_n xml xfetch 1 (y := (225, 194, [some (13, a0), some (0, a1), some (0, 0), none], [(0, (-1))], (xwr M a0 0 0))) rfl trivial ?_
    cases h
    exact xEvG_ret xml xfetch rfl
  · have h := xif_f c_ h
    refine xEvG_br xml xfetch (fun c_ => ?_) (fun c_ => ?_)
    · have h := xif_t c_ h
      refine xEvG_n xml xfetch 4 (y := (225, 70, [some (13, a0), some (0, a1), some (0, 0), none], [(0, ((xwr M a0 0 0) (a0 + 7) 0))], (xwr M a0 0 0))) rfl ⟨by decide, trivial⟩ ?_
      cases h
      exact xEvG_ret xml xfetch rfl
    · have h := xif_f c_ h
      refine xEvG_br xml xfetch (fun c_ => ?_) (fun c_ => ?_)
      · have h := xif_t c_ h
        refine xEvG_n xml xfetch 4 (y := (225, 77, [some (13, a0), some (0, a1), some (0, 0), none], [(0, ((xwr M a0 0 0) (a0 + 7) 1))], (xwr M a0 0 0))) rfl ⟨by decide, trivial⟩ ?_
        cases h
        exact xEvG_ret xml xfetch rfl
      · have h := xif_f c_ h
        refine xEvG_br xml xfetch (fun c_ => ?_) (fun c_ => ?_)
        · have h := xif_t c_ h
          refine xEvG_n xml xfetch 4 (y := (225, 84, [some (13, a0), some (0, a1), some (0, 0), none], [(0, ((xwr M a0 0 0) (a0 + 7) 4))], (xwr M a0 0 0))) rfl ⟨by decide, trivial⟩ ?_
          obtain ⟨v1, e_, h⟩ := xB_t h
          refine xEvG_call xml xfetch (q := (some (0, v1), (xwr M a0 0 0))) rfl (hQ_sizeOf ((xwr M a0 0 0) (a0 + 7) 4) (xwr M a0 0 0) _ e_) ?_
          show xEv (225, 87, [some (13, a0), some (0, a1), some (0, 0), none], [(0, v1)], (xwr M a0 0 0)) _
          cases h
          exact xEvG_ret xml xfetch rfl
        · have h := xif_f c_ h
          refine xEvG_br xml xfetch (fun c_ => ?_) (fun c_ => ?_)
          · have h := xif_t c_ h
            refine xEvG_n xml xfetch 4 (y := (225, 94, [some (13, a0), some (0, a1), some (0, 0), none], [(0, ((xwr M a0 0 0) (a0 + 7) 5))], (xwr M a0 0 0))) rfl ⟨by decide, trivial⟩ ?_
            cases h
            exact xEvG_ret xml xfetch rfl
          · have h := xif_f c_ h
            refine xEvG_br xml xfetch (fun c_ => ?_) (fun c_ => ?_)
            · have h := xif_t c_ h
              refine xEvG_n xml xfetch 4 (y := (225, 102, [some (13, a0), some (0, a1), some (0, 0), none], [(0, ((xwr M a0 0 0) (a0 + 7) 6))], (xwr M a0 0 0))) rfl ⟨by decide, trivial⟩ ?_
              cases h
              exact xEvG_ret xml xfetch rfl
            · have h := xif_f c_ h
              refine xEvG_br xml xfetch (fun c_ => ?_) (fun c_ => ?_)
              · have h := xif_t c_ h
                refine xEvG_n xml xfetch 4 (y := (225, 109, [some (13, a0), some (0, a1), some (0, 0), none], [(0, ((xwr M a0 0 0) (a0 + 6) 0))], (xwr M a0 0 0))) rfl ⟨by decide, trivial⟩ ?_
                cases h
                exact xEvG_ret xml xfetch rfl
              · have h := xif_f c_ h
                refine xEvG_br xml xfetch (fun c_ => ?_) (fun c_ => ?_)
                · have h := xif_t c_ h
                  refine xEvG_n xml xfetch 2 (y := (225, 114, [some (13, a0), some (0, a1), some (0, 0), none], [(0, ((xwr M a0 0 0) a0 6))], (xwr M a0 0 0))) rfl trivial ?_
                  cases h
                  exact xEvG_ret xml xfetch rfl
                · have h := xif_f c_ h
                  refine xEvG_br xml xfetch (fun c_ => ?_) (fun c_ => ?_)
                  · have h := xif_t c_ h
                    refine xEvG_n xml xfetch 4 (y := (225, 121, [some (13, a0), some (0, a1), some (0, 0), none], [(0, ((xwr M a0 0 0) (a0 + 7) 3))], (xwr M a0 0 0))) rfl ⟨by decide, trivial⟩ ?_
                    cases h
                    exact xEvG_ret xml xfetch rfl
                  · have h := xif_f c_ h
                    refine xEvG_br xml xfetch (fun c_ => ?_) (fun c_ => ?_)
                    · have h := xif_t c_ h
                      refine xEvG_n xml xfetch 2 (y := (225, 124, [some (13, a0), some (0, a1), some (0, 0), some (0, 0)], [], (xwr M a0 0 0))) rfl trivial ?_
                      refine xEvG_mask xml xfetch [true, false, true, true] ?_
                      exact hQ_count_L124 20001 a0 0 0 (xwr M a0 0 0) _ h
                    · have h := xif_f c_ h
                      refine xEvG_br xml xfetch (fun c_ => ?_) (fun c_ => ?_)
                      · have h := xif_t c_ h
                        refine xEvG_n xml xfetch 2 (y := (225, 162, [some (13, a0), some (0, a1), some (0, 0), some (0, 0)], [], (xwr M a0 0 0))) rfl trivial ?_
                        refine xEvG_mask xml xfetch [true, false, true, true] ?_
                        exact hQ_count_L162 20001 a0 0 0 (xwr M a0 0 0) _ h
                      · have h := xif_f c_ h
                        refine xEvG_n xml xfetch 1 (y := (225, 194, [some (13, a0), some (0, a1), some (0, 0), none], [(0, (-1))], (xwr M a0 0 0))) rfl trivial ?_
                        cases h
                        exact xEvG_ret xml xfetch rfl

/-- ConsentDoorsModel.keep(I)I -/
def fQ_keep (a0 a1 : Int) (M : xM) : Option (Int × xM) := if (fQ_in a1 0 2 (xwr M a0 0 0)) = 0 then (some ((-2), (xwr M a0 0 0))) else (xB (fQ_copyPrison a0 0 (xw32 (1 + a1)) (xwr M a0 0 0)) (fun m2 => xA (0 ≤ a1 ∧ a1 < 3) (some (0, (xwr m2 (a0 + 12) a1 (xbit 1))))))
theorem hQ_keep (a0 a1 : Int) (M : xM) (r : Int × xM) (h : fQ_keep a0 a1 M = some r) : xEv (226, 0, [some (13, a0), some (0, a1)], [], M) (some (0, r.1), r.2) := by
  unfold fQ_keep at h
  refine xEvG_n xml xfetch 7 (y := (226, 11, [some (13, a0), some (0, a1)], [(1, 2), (1, 0), (1, a1)], (xwr M a0 0 0))) rfl trivial ?_
  refine xEvG_call xml xfetch (q := (some (0, fQ_in a1 0 2 (xwr M a0 0 0)), (xwr M a0 0 0))) rfl (hQ_in a1 0 2 (xwr M a0 0 0) _ rfl) ?_
  show xEv (226, 14, [some (13, a0), some (0, a1)], [(0, (fQ_in a1 0 2 (xwr M a0 0 0)))], (xwr M a0 0 0)) _
  refine xEvG_n xml xfetch 1 (y := (226, if (fQ_in a1 0 2 (xwr M a0 0 0)) = 0 then 17 else 20, [some (13, a0), some (0, a1)], [], (xwr M a0 0 0))) rfl trivial ?_
  refine xEvG_br xml xfetch (fun c_ => ?_) (fun c_ => ?_)
  · have h := xif_t c_ h
    refine xEvG_n xml xfetch 1 (y := (226, 19, [some (13, a0), some (0, a1)], [(0, (-2))], (xwr M a0 0 0))) rfl trivial ?_
    cases h
    exact xEvG_ret xml xfetch rfl
  · have h := xif_f c_ h
    refine xEvG_n xml xfetch 5 (y := (226, 25, [some (13, a0), some (0, a1)], [(0, (xw32 (1 + a1))), (0, 0), (13, a0)], (xwr M a0 0 0))) rfl trivial ?_
    obtain ⟨m2, e_, h⟩ := xB_t h
    refine xEvG_call xml xfetch (q := (none, m2)) rfl (hQ_copyPrison a0 0 (xw32 (1 + a1)) (xwr M a0 0 0) _ e_) ?_
    show xEv (226, 28, [some (13, a0), some (0, a1)], [], m2) _
    have a0_ := (xA_t h).1
    have h := (xA_t h).2
    refine xEvG_n xml xfetch 6 (y := (226, 36, [some (13, a0), some (0, a1)], [(0, 0)], (xwr m2 (a0 + 12) a1 (xbit 1)))) rfl ⟨a0_, trivial⟩ ?_
    cases h
    exact xEvG_ret xml xfetch rfl

/-- ConsentDoorsModel.back(I)I -/
def fQ_back (a0 a1 : Int) (M : xM) : Option (Int × xM) := if (fQ_in a1 0 2 (xwr M a0 0 0)) = 0 then (some ((-2), (xwr M a0 0 0))) else (xA (0 ≤ a1 ∧ a1 < 3) (if ((xwr M a0 0 0) (a0 + 12) a1) = 0 then (some ((-6), (xwr M a0 0 0))) else (xB (fQ_copyPrison a0 (xw32 (1 + a1)) 0 (xwr M a0 0 0)) (fun m2 => some (0, m2)))))
theorem hQ_back (a0 a1 : Int) (M : xM) (r : Int × xM) (h : fQ_back a0 a1 M = some r) : xEv (227, 0, [some (13, a0), some (0, a1)], [], M) (some (0, r.1), r.2) := by
  unfold fQ_back at h
  refine xEvG_n xml xfetch 7 (y := (227, 11, [some (13, a0), some (0, a1)], [(1, 2), (1, 0), (1, a1)], (xwr M a0 0 0))) rfl trivial ?_
  refine xEvG_call xml xfetch (q := (some (0, fQ_in a1 0 2 (xwr M a0 0 0)), (xwr M a0 0 0))) rfl (hQ_in a1 0 2 (xwr M a0 0 0) _ rfl) ?_
  show xEv (227, 14, [some (13, a0), some (0, a1)], [(0, (fQ_in a1 0 2 (xwr M a0 0 0)))], (xwr M a0 0 0)) _
  refine xEvG_n xml xfetch 1 (y := (227, if (fQ_in a1 0 2 (xwr M a0 0 0)) = 0 then 17 else 20, [some (13, a0), some (0, a1)], [], (xwr M a0 0 0))) rfl trivial ?_
  refine xEvG_br xml xfetch (fun c_ => ?_) (fun c_ => ?_)
  · have h := xif_t c_ h
    refine xEvG_n xml xfetch 1 (y := (227, 19, [some (13, a0), some (0, a1)], [(0, (-2))], (xwr M a0 0 0))) rfl trivial ?_
    cases h
    exact xEvG_ret xml xfetch rfl
  · have h := xif_f c_ h
    have a0_ := (xA_t h).1
    have h := (xA_t h).2
    refine xEvG_n xml xfetch 5 (y := (227, if ((xwr M a0 0 0) (a0 + 12) a1) = 0 then 29 else 32, [some (13, a0), some (0, a1)], [], (xwr M a0 0 0))) rfl ⟨a0_, trivial⟩ ?_
    refine xEvG_br xml xfetch (fun c_ => ?_) (fun c_ => ?_)
    · have h := xif_t c_ h
      refine xEvG_n xml xfetch 1 (y := (227, 31, [some (13, a0), some (0, a1)], [(0, (-6))], (xwr M a0 0 0))) rfl trivial ?_
      cases h
      exact xEvG_ret xml xfetch rfl
    · have h := xif_f c_ h
      refine xEvG_n xml xfetch 5 (y := (227, 37, [some (13, a0), some (0, a1)], [(0, 0), (0, (xw32 (1 + a1))), (13, a0)], (xwr M a0 0 0))) rfl trivial ?_
      obtain ⟨m2, e_, h⟩ := xB_t h
      refine xEvG_call xml xfetch (q := (none, m2)) rfl (hQ_copyPrison a0 (xw32 (1 + a1)) 0 (xwr M a0 0 0) _ e_) ?_
      show xEv (227, 40, [some (13, a0), some (0, a1)], [], m2) _
      refine xEvG_n xml xfetch 1 (y := (227, 41, [some (13, a0), some (0, a1)], [(0, 0)], m2)) rfl trivial ?_
      cases h
      exact xEvG_ret xml xfetch rfl

end
