/-! the methods as functions, each with its proof (printed by wip/tools/fgen.py) -/
noncomputable section
def fQ_free_L23 : Nat → Int → Int → Int → xM → Option (Int × xM)
  | 0, _, _, _, _ => none
  | g + 1, x0, x1, x2, M => if x2 < (M (x0 + 7) 1) then (xA (0 ≤ x2 ∧ x2 < 24) (if (M (x0 + 15) x2) = x1 then (some (x2, M)) else ((fQ_free_L23 g) x0 x1 (xw32 (x2 + 1)) M))) else (some ((-1), M))
theorem hQ_free_L23 : ∀ (g : Nat) (x0 x1 x2 : Int) (M : xM) (r : Int × xM) (h : fQ_free_L23 g x0 x1 x2 M = some r), xEv (159, 23, [some (13, x0), some (0, x1), some (0, x2)], [], M) (some (0, r.1), r.2)
  | 0, _, _, _, _, _, h => by cases h
  | g + 1, x0, x1, x2, M, r, h => by
    unfold fQ_free_L23 at h
    refine xEvG_n xml xfetch 6 (y := (159, if x2 < (M (x0 + 7) 1) then 33 else 51, [some (13, x0), some (0, x1), some (0, x2)], [], M)) rfl ⟨by decide, trivial⟩ ?_
    refine xEvG_br xml xfetch (fun c_ => ?_) (fun c_ => ?_)
    · have h := xif_t c_ h
      have a0_ := (xA_t h).1
      have h := (xA_t h).2
      refine xEvG_n xml xfetch 6 (y := (159, if (M (x0 + 15) x2) = x1 then 43 else 45, [some (13, x0), some (0, x1), some (0, x2)], [], M)) rfl ⟨a0_, trivial⟩ ?_
      refine xEvG_br xml xfetch (fun c_ => ?_) (fun c_ => ?_)
      · have h := xif_t c_ h
        refine xEvG_n xml xfetch 1 (y := (159, 44, [some (13, x0), some (0, x1), some (0, x2)], [(0, x2)], M)) rfl trivial ?_
        cases h
        exact xEvG_ret xml xfetch rfl
      · have h := xif_f c_ h
        refine xEvG_n xml xfetch 2 (y := (159, 23, [some (13, x0), some (0, x1), some (0, (xw32 (x2 + 1)))], [], M)) rfl trivial ?_
        refine xEvG_mask xml xfetch [true, true, true] ?_
        exact (hQ_free_L23 g) x0 x1 (xw32 (x2 + 1)) M _ h
    · have h := xif_f c_ h
      refine xEvG_n xml xfetch 1 (y := (159, 52, [some (13, x0), some (0, x1), some (0, x2)], [(0, (-1))], M)) rfl trivial ?_
      cases h
      exact xEvG_ret xml xfetch rfl
/-- ConsentDoorsModel.free(I)I -/
def fQ_free (a0 a1 : Int) (M : xM) : Option (Int × xM) := if (fQ_isCell a0 a1 (xwr M a0 0 0)) = 0 then (some ((-2), (xwr M a0 0 0))) else (xB (fQ_asTold a0 (xwr M a0 0 0)) (fun m2 => fQ_free_L23 20001 a0 a1 0 m2))
theorem hQ_free (a0 a1 : Int) (M : xM) (r : Int × xM) (h : fQ_free a0 a1 M = some r) : xEv (159, 0, [some (13, a0), some (0, a1), none], [], M) (some (0, r.1), r.2) := by
  unfold fQ_free at h
  refine xEvG_n xml xfetch 6 (y := (159, 8, [some (13, a0), some (0, a1), none], [(1, a1), (13, a0)], (xwr M a0 0 0))) rfl trivial ?_
  refine xEvG_call xml xfetch (q := (some (0, fQ_isCell a0 a1 (xwr M a0 0 0)), (xwr M a0 0 0))) rfl (hQ_isCell a0 a1 (xwr M a0 0 0) _ rfl) ?_
  show xEv (159, 11, [some (13, a0), some (0, a1), none], [(0, (fQ_isCell a0 a1 (xwr M a0 0 0)))], (xwr M a0 0 0)) _
  refine xEvG_n xml xfetch 1 (y := (159, if (fQ_isCell a0 a1 (xwr M a0 0 0)) = 0 then 14 else 17, [some (13, a0), some (0, a1), none], [], (xwr M a0 0 0))) rfl trivial ?_
  refine xEvG_br xml xfetch (fun c_ => ?_) (fun c_ => ?_)
  · have h := xif_t c_ h
    refine xEvG_n xml xfetch 1 (y := (159, 16, [some (13, a0), some (0, a1), none], [(0, (-2))], (xwr M a0 0 0))) rfl trivial ?_
    cases h
    exact xEvG_ret xml xfetch rfl
  · have h := xif_f c_ h
    refine xEvG_n xml xfetch 1 (y := (159, 18, [some (13, a0), some (0, a1), none], [(13, a0)], (xwr M a0 0 0))) rfl trivial ?_
    obtain ⟨m2, e_, h⟩ := xB_t h
    refine xEvG_call xml xfetch (q := (none, m2)) rfl (hQ_asTold a0 (xwr M a0 0 0) _ e_) ?_
    show xEv (159, 21, [some (13, a0), some (0, a1), none], [], m2) _
    refine xEvG_n xml xfetch 2 (y := (159, 23, [some (13, a0), some (0, a1), some (0, 0)], [], m2)) rfl trivial ?_
    refine xEvG_mask xml xfetch [true, true, true] ?_
    exact hQ_free_L23 20001 a0 a1 0 m2 _ h

def fQ_turned_L38 (k_25 : Int → Int → Int → Int → xM → Option (Int × xM)) : Nat → Int → Int → Int → Int → Int → xM → Option (Int × xM)
  | 0, _, _, _, _, _, _ => none
  | g + 1, x0, x1, x2, x3, x4, M => if x4 < 2 then (xA (0 ≤ x3 ∧ x3 < 24) (if (M (x0 + 15) x3) = (-1) then ((fQ_turned_L38 k_25 g) x0 x1 (xw32 (x2 + 0)) x3 (xw32 (x4 + 1)) M) else (xA (0 ≤ x3 ∧ x3 < 24) (xB (fQ_besideIn x0 0 (M (x0 + 15) x3) x4 M) (fun v3 => if v3 = x1 then ((fQ_turned_L38 k_25 g) x0 x1 (xw32 (x2 + 1)) x3 (xw32 (x4 + 1)) M) else ((fQ_turned_L38 k_25 g) x0 x1 (xw32 (x2 + 0)) x3 (xw32 (x4 + 1)) M)))))) else (k_25 x0 x1 x2 (xw32 (x3 + 1)) M)
theorem hQ_turned_L38 (k_25 : Int → Int → Int → Int → xM → Option (Int × xM)) (hk_25 : ∀ (x0 x1 x2 x3 : Int) (M : xM) (r : Int × xM), k_25 x0 x1 x2 x3 M = some r → xEv (160, 25, [some (13, x0), some (0, x1), some (0, x2), some (0, x3), none], [], M) (some (0, r.1), r.2)) : ∀ (g : Nat) (x0 x1 x2 x3 x4 : Int) (M : xM) (r : Int × xM) (h : fQ_turned_L38 k_25 g x0 x1 x2 x3 x4 M = some r), xEv (160, 38, [some (13, x0), some (0, x1), some (0, x2), some (0, x3), some (0, x4)], [], M) (some (0, r.1), r.2)
  | 0, _, _, _, _, _, _, _, h => by cases h
  | g + 1, x0, x1, x2, x3, x4, M, r, h => by
    unfold fQ_turned_L38 at h
    refine xEvG_n xml xfetch 3 (y := (160, if x4 < 2 then 44 else 85, [some (13, x0), some (0, x1), some (0, x2), some (0, x3), some (0, x4)], [], M)) rfl trivial ?_
    refine xEvG_br xml xfetch (fun c_ => ?_) (fun c_ => ?_)
    · have h := xif_t c_ h
      have a0_ := (xA_t h).1
      have h := (xA_t h).2
      refine xEvG_n xml xfetch 7 (y := (160, if (M (x0 + 15) x3) = (-1) then 76 else 55, [some (13, x0), some (0, x1), some (0, x2), some (0, x3), some (0, x4)], [(0, x2)], M)) rfl ⟨a0_, trivial⟩ ?_
      refine xEvG_br xml xfetch (fun c_ => ?_) (fun c_ => ?_)
      · have h := xif_t c_ h
        refine xEvG_n xml xfetch 5 (y := (160, 38, [some (13, x0), some (0, x1), some (0, (xw32 (x2 + 0))), some (0, x3), some (0, (xw32 (x4 + 1)))], [], M)) rfl trivial ?_
        refine xEvG_mask xml xfetch [true, true, true, true, true] ?_
        exact (hQ_turned_L38 k_25 hk_25 g) x0 x1 (xw32 (x2 + 0)) x3 (xw32 (x4 + 1)) M _ h
      · have h := xif_f c_ h
        have a0_ := (xA_t h).1
        have h := (xA_t h).2
        refine xEvG_n xml xfetch 7 (y := (160, 65, [some (13, x0), some (0, x1), some (0, x2), some (0, x3), some (0, x4)], [(0, x4), (0, (M (x0 + 15) x3)), (0, 0), (13, x0), (0, x2)], M)) rfl ⟨a0_, trivial⟩ ?_
        obtain ⟨v3, e_, h⟩ := xB_t h
        refine xEvG_call xml xfetch (q := (some (0, v3), M)) rfl (hQ_besideIn x0 0 (M (x0 + 15) x3) x4 M _ e_) ?_
        show xEv (160, 68, [some (13, x0), some (0, x1), some (0, x2), some (0, x3), some (0, x4)], [(0, v3), (0, x2)], M) _
        refine xEvG_n xml xfetch 2 (y := (160, if v3 = x1 then 72 else 76, [some (13, x0), some (0, x1), some (0, x2), some (0, x3), some (0, x4)], [(0, x2)], M)) rfl trivial ?_
        refine xEvG_br xml xfetch (fun c_ => ?_) (fun c_ => ?_)
        · have h := xif_t c_ h
          refine xEvG_n xml xfetch 6 (y := (160, 38, [some (13, x0), some (0, x1), some (0, (xw32 (x2 + 1))), some (0, x3), some (0, (xw32 (x4 + 1)))], [], M)) rfl trivial ?_
          refine xEvG_mask xml xfetch [true, true, true, true, true] ?_
          exact (hQ_turned_L38 k_25 hk_25 g) x0 x1 (xw32 (x2 + 1)) x3 (xw32 (x4 + 1)) M _ h
        · have h := xif_f c_ h
          refine xEvG_n xml xfetch 5 (y := (160, 38, [some (13, x0), some (0, x1), some (0, (xw32 (x2 + 0))), some (0, x3), some (0, (xw32 (x4 + 1)))], [], M)) rfl trivial ?_
          refine xEvG_mask xml xfetch [true, true, true, true, true] ?_
          exact (hQ_turned_L38 k_25 hk_25 g) x0 x1 (xw32 (x2 + 0)) x3 (xw32 (x4 + 1)) M _ h
    · have h := xif_f c_ h
      refine xEvG_n xml xfetch 2 (y := (160, 25, [some (13, x0), some (0, x1), some (0, x2), some (0, (xw32 (x3 + 1))), some (0, x4)], [], M)) rfl trivial ?_
      refine xEvG_mask xml xfetch [true, true, true, true, false] ?_
      exact hk_25 x0 x1 x2 (xw32 (x3 + 1)) M _ h
def fQ_turned_L25 : Nat → Int → Int → Int → Int → xM → Option (Int × xM)
  | 0, _, _, _, _, _ => none
  | g + 1, x0, x1, x2, x3, M => if x3 < (M (x0 + 7) 1) then (fQ_turned_L38 (fQ_turned_L25 g) 20001 x0 x1 x2 x3 0 M) else (some (x2, M))
theorem hQ_turned_L25 : ∀ (g : Nat) (x0 x1 x2 x3 : Int) (M : xM) (r : Int × xM) (h : fQ_turned_L25 g x0 x1 x2 x3 M = some r), xEv (160, 25, [some (13, x0), some (0, x1), some (0, x2), some (0, x3), none], [], M) (some (0, r.1), r.2)
  | 0, _, _, _, _, _, _, h => by cases h
  | g + 1, x0, x1, x2, x3, M, r, h => by
    unfold fQ_turned_L25 at h
    refine xEvG_n xml xfetch 6 (y := (160, if x3 < (M (x0 + 7) 1) then 35 else 91, [some (13, x0), some (0, x1), some (0, x2), some (0, x3), none], [], M)) rfl ⟨by decide, trivial⟩ ?_
    refine xEvG_br xml xfetch (fun c_ => ?_) (fun c_ => ?_)
    · have h := xif_t c_ h
      refine xEvG_n xml xfetch 2 (y := (160, 38, [some (13, x0), some (0, x1), some (0, x2), some (0, x3), some (0, 0)], [], M)) rfl trivial ?_
      refine xEvG_mask xml xfetch [true, true, true, true, true] ?_
      exact hQ_turned_L38 (fQ_turned_L25 g) (hQ_turned_L25 g) 20001 x0 x1 x2 x3 0 M _ h
    · have h := xif_f c_ h
      refine xEvG_n xml xfetch 1 (y := (160, 92, [some (13, x0), some (0, x1), some (0, x2), some (0, x3), none], [(0, x2)], M)) rfl trivial ?_
      cases h
      exact xEvG_ret xml xfetch rfl
/-- ConsentDoorsModel.turned(I)I -/
def fQ_turned (a0 a1 : Int) (M : xM) : Option (Int × xM) := if (fQ_isCell a0 a1 (xwr M a0 0 0)) = 0 then (some ((-2), (xwr M a0 0 0))) else (xB (fQ_asTold a0 (xwr M a0 0 0)) (fun m2 => fQ_turned_L25 20001 a0 a1 0 0 m2))
theorem hQ_turned (a0 a1 : Int) (M : xM) (r : Int × xM) (h : fQ_turned a0 a1 M = some r) : xEv (160, 0, [some (13, a0), some (0, a1), none, none, none], [], M) (some (0, r.1), r.2) := by
  unfold fQ_turned at h
  refine xEvG_n xml xfetch 6 (y := (160, 8, [some (13, a0), some (0, a1), none, none, none], [(1, a1), (13, a0)], (xwr M a0 0 0))) rfl trivial ?_
  refine xEvG_call xml xfetch (q := (some (0, fQ_isCell a0 a1 (xwr M a0 0 0)), (xwr M a0 0 0))) rfl (hQ_isCell a0 a1 (xwr M a0 0 0) _ rfl) ?_
  show xEv (160, 11, [some (13, a0), some (0, a1), none, none, none], [(0, (fQ_isCell a0 a1 (xwr M a0 0 0)))], (xwr M a0 0 0)) _
  refine xEvG_n xml xfetch 1 (y := (160, if (fQ_isCell a0 a1 (xwr M a0 0 0)) = 0 then 14 else 17, [some (13, a0), some (0, a1), none, none, none], [], (xwr M a0 0 0))) rfl trivial ?_
  refine xEvG_br xml xfetch (fun c_ => ?_) (fun c_ => ?_)
  · have h := xif_t c_ h
    refine xEvG_n xml xfetch 1 (y := (160, 16, [some (13, a0), some (0, a1), none, none, none], [(0, (-2))], (xwr M a0 0 0))) rfl trivial ?_
    cases h
    exact xEvG_ret xml xfetch rfl
  · have h := xif_f c_ h
    refine xEvG_n xml xfetch 1 (y := (160, 18, [some (13, a0), some (0, a1), none, none, none], [(13, a0)], (xwr M a0 0 0))) rfl trivial ?_
    obtain ⟨m2, e_, h⟩ := xB_t h
    refine xEvG_call xml xfetch (q := (none, m2)) rfl (hQ_asTold a0 (xwr M a0 0 0) _ e_) ?_
    show xEv (160, 21, [some (13, a0), some (0, a1), none, none, none], [], m2) _
    refine xEvG_n xml xfetch 4 (y := (160, 25, [some (13, a0), some (0, a1), some (0, 0), some (0, 0), none], [], m2)) rfl trivial ?_
    refine xEvG_mask xml xfetch [true, true, true, true, false] ?_
    exact hQ_turned_L25 20001 a0 a1 0 0 m2 _ h

/-- ConsentDoorsModel.wrist(II)I -/
def fQ_wrist (a0 a1 a2 : Int) (M : xM) : Option (Int × xM) := if (fQ_isHour a0 a1 (xwr M a0 0 0)) = 0 then (some ((-2), (xwr M a0 0 0))) else (if (fQ_isSide a2 (xwr M a0 0 0)) = 0 then (some ((-2), (xwr M a0 0 0))) else (xB (fQ_asTold a0 (xwr M a0 0 0)) (fun m3 => xA (0 ≤ a1 ∧ a1 < 24) (if (m3 (a0 + 15) a1) = (-1) then (some ((-1), m3)) else (xA (0 ≤ a1 ∧ a1 < 24) (xB (fQ_besideIn a0 0 (m3 (a0 + 15) a1) a2 m3) (fun v4 => some (v4, m3))))))))
theorem hQ_wrist (a0 a1 a2 : Int) (M : xM) (r : Int × xM) (h : fQ_wrist a0 a1 a2 M = some r) : xEv (161, 0, [some (13, a0), some (0, a1), some (0, a2)], [], M) (some (0, r.1), r.2) := by
  unfold fQ_wrist at h
  refine xEvG_n xml xfetch 6 (y := (161, 8, [some (13, a0), some (0, a1), some (0, a2)], [(1, a1), (13, a0)], (xwr M a0 0 0))) rfl trivial ?_
  refine xEvG_call xml xfetch (q := (some (0, fQ_isHour a0 a1 (xwr M a0 0 0)), (xwr M a0 0 0))) rfl (hQ_isHour a0 a1 (xwr M a0 0 0) _ rfl) ?_
  show xEv (161, 11, [some (13, a0), some (0, a1), some (0, a2)], [(0, (fQ_isHour a0 a1 (xwr M a0 0 0)))], (xwr M a0 0 0)) _
  refine xEvG_n xml xfetch 1 (y := (161, if (fQ_isHour a0 a1 (xwr M a0 0 0)) = 0 then 22 else 14, [some (13, a0), some (0, a1), some (0, a2)], [], (xwr M a0 0 0))) rfl trivial ?_
  refine xEvG_br xml xfetch (fun c_ => ?_) (fun c_ => ?_)
  · have h := xif_t c_ h
    refine xEvG_n xml xfetch 1 (y := (161, 24, [some (13, a0), some (0, a1), some (0, a2)], [(0, (-2))], (xwr M a0 0 0))) rfl trivial ?_
    cases h
    exact xEvG_ret xml xfetch rfl
  · have h := xif_f c_ h
    refine xEvG_n xml xfetch 2 (y := (161, 16, [some (13, a0), some (0, a1), some (0, a2)], [(1, a2)], (xwr M a0 0 0))) rfl trivial ?_
    refine xEvG_call xml xfetch (q := (some (0, fQ_isSide a2 (xwr M a0 0 0)), (xwr M a0 0 0))) rfl (hQ_isSide a2 (xwr M a0 0 0) _ rfl) ?_
    show xEv (161, 19, [some (13, a0), some (0, a1), some (0, a2)], [(0, (fQ_isSide a2 (xwr M a0 0 0)))], (xwr M a0 0 0)) _
    refine xEvG_n xml xfetch 1 (y := (161, if (fQ_isSide a2 (xwr M a0 0 0)) = 0 then 22 else 25, [some (13, a0), some (0, a1), some (0, a2)], [], (xwr M a0 0 0))) rfl trivial ?_
    refine xEvG_br xml xfetch (fun c_ => ?_) (fun c_ => ?_)
    · have h := xif_t c_ h
      refine xEvG_n xml xfetch 1 (y := (161, 24, [some (13, a0), some (0, a1), some (0, a2)], [(0, (-2))], (xwr M a0 0 0))) rfl trivial ?_
      cases h
      exact xEvG_ret xml xfetch rfl
    · have h := xif_f c_ h
      refine xEvG_n xml xfetch 1 (y := (161, 26, [some (13, a0), some (0, a1), some (0, a2)], [(13, a0)], (xwr M a0 0 0))) rfl trivial ?_
      obtain ⟨m3, e_, h⟩ := xB_t h
      refine xEvG_call xml xfetch (q := (none, m3)) rfl (hQ_asTold a0 (xwr M a0 0 0) _ e_) ?_
      show xEv (161, 29, [some (13, a0), some (0, a1), some (0, a2)], [], m3) _
      have a0_ := (xA_t h).1
      have h := (xA_t h).2
      refine xEvG_n xml xfetch 6 (y := (161, if (m3 (a0 + 15) a1) = (-1) then 39 else 43, [some (13, a0), some (0, a1), some (0, a2)], [], m3)) rfl ⟨a0_, trivial⟩ ?_
      refine xEvG_br xml xfetch (fun c_ => ?_) (fun c_ => ?_)
      · have h := xif_t c_ h
        refine xEvG_n xml xfetch 2 (y := (161, 55, [some (13, a0), some (0, a1), some (0, a2)], [(0, (-1))], m3)) rfl trivial ?_
        cases h
        exact xEvG_ret xml xfetch rfl
      · have h := xif_f c_ h
        have a0_ := (xA_t h).1
        have h := (xA_t h).2
        refine xEvG_n xml xfetch 7 (y := (161, 52, [some (13, a0), some (0, a1), some (0, a2)], [(0, a2), (0, (m3 (a0 + 15) a1)), (0, 0), (13, a0)], m3)) rfl ⟨a0_, trivial⟩ ?_
        obtain ⟨v4, e_, h⟩ := xB_t h
        refine xEvG_call xml xfetch (q := (some (0, v4), m3)) rfl (hQ_besideIn a0 0 (m3 (a0 + 15) a1) a2 m3 _ e_) ?_
        show xEv (161, 55, [some (13, a0), some (0, a1), some (0, a2)], [(0, v4)], m3) _
        cases h
        exact xEvG_ret xml xfetch rfl

/-- ConsentDoorsModel.isPrison()Z -/
def fQ_isPrison (a0 : Int) (M : xM) : Int := (if 0 < (M (a0 + 6) 0) then 1 else 0 : Int)
theorem hQ_isPrison (a0 : Int) (M : xM) (r : Int) (h : fQ_isPrison a0 M = r) : xEv (122, 0, [some (13, a0)], [], M) (some (0, r), M) := by
  unfold fQ_isPrison at h
  refine xEvG_n xml xfetch 4 (y := (122, 6, [some (13, a0)], [(0, (M (a0 + 6) 0))], M)) rfl ⟨by decide, trivial⟩ ?_
  have key_ : xEv (122, 14, [some (13, a0)], [(0, (if 0 < (M (a0 + 6) 0) then 1 else 0 : Int))], M) (some (0, r), M) := by
    subst h
    exact xEvG_retc xml xfetch rfl (by (repeat' split) <;> first | exact Or.inl rfl | exact Or.inr rfl)
  refine xEvG_n xml xfetch 1 (y := (122, if 0 < (M (a0 + 6) 0) then 9 else 13, [some (13, a0)], [], M)) rfl trivial ?_
  refine xEvG_br xml xfetch (fun c2_ => ?_) (fun c2_ => ?_)
  · refine xEvG_n xml xfetch 2 (y := (122, 14, [some (13, a0)], [(0, 1)], M)) rfl trivial ?_
    try simp only [if_pos c2_] at key_
    try simp only [if_pos c2_]
    exact key_
  · refine xEvG_n xml xfetch 1 (y := (122, 14, [some (13, a0)], [(0, 0)], M)) rfl trivial ?_
    try simp only [if_neg c2_] at key_
    try simp only [if_neg c2_]
    exact key_
theorem bQ_isPrison (a0 : Int) (M : xM) : fQ_isPrison a0 M = 0 ∨ fQ_isPrison a0 M = 1 := by
  unfold fQ_isPrison
  (repeat' split) <;> first | exact Or.inl rfl | exact Or.inr rfl | exact bD_isDrawing _ _ _ | exact bD_isPoints _ _ | exact bD_isSide _ _ | exact bD_isSlot _ _ | exact bPrison_hasCell _ _ _ | exact bPrison_hasHour _ _ _ | exact bPrison_stands _ _ | exact bQ_in _ _ _ _ | exact bQ_is _ _ _ | exact bQ_isBit _ _ _ | exact bQ_isCell _ _ _ | exact bQ_isGood _ _ | exact bQ_isHour _ _ _ | exact bQ_isSide _ _ | exact bQ_isSlot _ _ | exact bSlot_holds _ _ _ _ | exact bSlot_isBelow _ _ _

def fQ_vain_L23 : Nat → Int → Int → Int → xM → Option (Int × xM)
  | 0, _, _, _, _ => none
  | g + 1, x0, x1, x2, M => if x2 < (M (x0 + 7) 1) then (xA (0 ≤ x2 ∧ x2 < 120) (if (M (x0 + 11) x2) = (-1) then ((fQ_vain_L23 g) x0 (xw32 (x1 + 0)) (xw32 (x2 + 1)) M) else (xA (0 ≤ x2 ∧ x2 < 24) (if (M (x0 + 15) x2) = (-1) then ((fQ_vain_L23 g) x0 (xw32 (x1 + 1)) (xw32 (x2 + 1)) M) else ((fQ_vain_L23 g) x0 (xw32 (x1 + 0)) (xw32 (x2 + 1)) M))))) else (some (x1, M))
theorem hQ_vain_L23 : ∀ (g : Nat) (x0 x1 x2 : Int) (M : xM) (r : Int × xM) (h : fQ_vain_L23 g x0 x1 x2 M = some r), xEv (162, 23, [some (13, x0), some (0, x1), some (0, x2)], [], M) (some (0, r.1), r.2)
  | 0, _, _, _, _, _, h => by cases h
  | g + 1, x0, x1, x2, M, r, h => by
    unfold fQ_vain_L23 at h
    refine xEvG_n xml xfetch 6 (y := (162, if x2 < (M (x0 + 7) 1) then 33 else 67, [some (13, x0), some (0, x1), some (0, x2)], [], M)) rfl ⟨by decide, trivial⟩ ?_
    refine xEvG_br xml xfetch (fun c_ => ?_) (fun c_ => ?_)
    · have h := xif_t c_ h
      have a0_ := (xA_t h).1
      have h := (xA_t h).2
      refine xEvG_n xml xfetch 7 (y := (162, if (M (x0 + 11) x2) = (-1) then 58 else 44, [some (13, x0), some (0, x1), some (0, x2)], [(0, x1)], M)) rfl ⟨a0_, trivial⟩ ?_
      refine xEvG_br xml xfetch (fun c_ => ?_) (fun c_ => ?_)
      · have h := xif_t c_ h
        refine xEvG_n xml xfetch 5 (y := (162, 23, [some (13, x0), some (0, (xw32 (x1 + 0))), some (0, (xw32 (x2 + 1)))], [], M)) rfl trivial ?_
        refine xEvG_mask xml xfetch [true, true, true] ?_
        exact (hQ_vain_L23 g) x0 (xw32 (x1 + 0)) (xw32 (x2 + 1)) M _ h
      · have h := xif_f c_ h
        have a0_ := (xA_t h).1
        have h := (xA_t h).2
        refine xEvG_n xml xfetch 6 (y := (162, if (M (x0 + 15) x2) = (-1) then 54 else 58, [some (13, x0), some (0, x1), some (0, x2)], [(0, x1)], M)) rfl ⟨a0_, trivial⟩ ?_
        refine xEvG_br xml xfetch (fun c_ => ?_) (fun c_ => ?_)
        · have h := xif_t c_ h
          refine xEvG_n xml xfetch 6 (y := (162, 23, [some (13, x0), some (0, (xw32 (x1 + 1))), some (0, (xw32 (x2 + 1)))], [], M)) rfl trivial ?_
          refine xEvG_mask xml xfetch [true, true, true] ?_
          exact (hQ_vain_L23 g) x0 (xw32 (x1 + 1)) (xw32 (x2 + 1)) M _ h
        · have h := xif_f c_ h
          refine xEvG_n xml xfetch 5 (y := (162, 23, [some (13, x0), some (0, (xw32 (x1 + 0))), some (0, (xw32 (x2 + 1)))], [], M)) rfl trivial ?_
          refine xEvG_mask xml xfetch [true, true, true] ?_
          exact (hQ_vain_L23 g) x0 (xw32 (x1 + 0)) (xw32 (x2 + 1)) M _ h
    · have h := xif_f c_ h
      refine xEvG_n xml xfetch 1 (y := (162, 68, [some (13, x0), some (0, x1), some (0, x2)], [(0, x1)], M)) rfl trivial ?_
      cases h
      exact xEvG_ret xml xfetch rfl
/-- ConsentDoorsModel.vain()I -/
def fQ_vain (a0 : Int) (M : xM) : Option (Int × xM) := if (fQ_isPrison a0 (xwr M a0 0 0)) = 0 then (some ((-2), (xwr M a0 0 0))) else (xB (fQ_asTold a0 (xwr M a0 0 0)) (fun m2 => fQ_vain_L23 20001 a0 0 0 m2))
theorem hQ_vain (a0 : Int) (M : xM) (r : Int × xM) (h : fQ_vain a0 M = some r) : xEv (162, 0, [some (13, a0), none, none], [], M) (some (0, r.1), r.2) := by
  unfold fQ_vain at h
  refine xEvG_n xml xfetch 4 (y := (162, 6, [some (13, a0), none, none], [(13, a0)], (xwr M a0 0 0))) rfl trivial ?_
  refine xEvG_call xml xfetch (q := (some (0, fQ_isPrison a0 (xwr M a0 0 0)), (xwr M a0 0 0))) rfl (hQ_isPrison a0 (xwr M a0 0 0) _ rfl) ?_
  show xEv (162, 9, [some (13, a0), none, none], [(0, (fQ_isPrison a0 (xwr M a0 0 0)))], (xwr M a0 0 0)) _
  refine xEvG_n xml xfetch 1 (y := (162, if (fQ_isPrison a0 (xwr M a0 0 0)) = 0 then 12 else 15, [some (13, a0), none, none], [], (xwr M a0 0 0))) rfl trivial ?_
  refine xEvG_br xml xfetch (fun c_ => ?_) (fun c_ => ?_)
  · have h := xif_t c_ h
    refine xEvG_n xml xfetch 1 (y := (162, 14, [some (13, a0), none, none], [(0, (-2))], (xwr M a0 0 0))) rfl trivial ?_
    cases h
    exact xEvG_ret xml xfetch rfl
  · have h := xif_f c_ h
    refine xEvG_n xml xfetch 1 (y := (162, 16, [some (13, a0), none, none], [(13, a0)], (xwr M a0 0 0))) rfl trivial ?_
    obtain ⟨m2, e_, h⟩ := xB_t h
    refine xEvG_call xml xfetch (q := (none, m2)) rfl (hQ_asTold a0 (xwr M a0 0 0) _ e_) ?_
    show xEv (162, 19, [some (13, a0), none, none], [], m2) _
    refine xEvG_n xml xfetch 4 (y := (162, 23, [some (13, a0), some (0, 0), some (0, 0)], [], m2)) rfl trivial ?_
    refine xEvG_mask xml xfetch [true, true, true] ?_
    exact hQ_vain_L23 20001 a0 0 0 m2 _ h

def fQ_reaches_L93 (k_52 : Int → Int → Int → Int → xM → Option xM) : Nat → Int → Int → Int → Int → Int → xM → Option xM
  | 0, _, _, _, _, _, _ => none
  | g + 1, x0, x1, x2, x3, x4, M => if x4 < (M (x0 + 7) 0) then (xB (fQ_opensIf x0 x4 x2 x3 M) (fun v1 => if v1 = 0 then ((fQ_reaches_L93 k_52 g) x0 x1 x2 x3 (xw32 (x4 + 1)) M) else (xA (0 ≤ (xw32 ((xw32 (512 * (xw32 (x2 + 1)))) + (xor32 x3 (xshl 1 x4)))) ∧ (xw32 ((xw32 (512 * (xw32 (x2 + 1)))) + (xor32 x3 (xshl 1 x4)))) < 12800) ((fQ_reaches_L93 k_52 g) x0 x1 x2 x3 (xw32 (x4 + 1)) (xwr M (x0 + 17) (xw32 ((xw32 (512 * (xw32 (x2 + 1)))) + (xor32 x3 (xshl 1 x4)))) (xbit 1)))))) else (k_52 x0 x1 x2 (xw32 (x3 + 1)) M)
theorem hQ_reaches_L93 (k_52 : Int → Int → Int → Int → xM → Option xM) (hk_52 : ∀ (x0 x1 x2 x3 : Int) (M : xM) (r : xM), k_52 x0 x1 x2 x3 M = some r → xEv (163, 52, [some (13, x0), some (0, x1), some (0, x2), some (0, x3), none], [], M) (none, r)) : ∀ (g : Nat) (x0 x1 x2 x3 x4 : Int) (M : xM) (r : xM) (h : fQ_reaches_L93 k_52 g x0 x1 x2 x3 x4 M = some r), xEv (163, 93, [some (13, x0), some (0, x1), some (0, x2), some (0, x3), some (0, x4)], [], M) (none, r)
  | 0, _, _, _, _, _, _, _, h => by cases h
  | g + 1, x0, x1, x2, x3, x4, M, r, h => by
    unfold fQ_reaches_L93 at h
    refine xEvG_n xml xfetch 6 (y := (163, if x4 < (M (x0 + 7) 0) then 104 else 141, [some (13, x0), some (0, x1), some (0, x2), some (0, x3), some (0, x4)], [], M)) rfl ⟨by decide, trivial⟩ ?_
    refine xEvG_br xml xfetch (fun c_ => ?_) (fun c_ => ?_)
    · have h := xif_t c_ h
      refine xEvG_n xml xfetch 4 (y := (163, 109, [some (13, x0), some (0, x1), some (0, x2), some (0, x3), some (0, x4)], [(0, x3), (0, x2), (0, x4), (13, x0)], M)) rfl trivial ?_
      obtain ⟨v1, e_, h⟩ := xB_t h
      refine xEvG_call xml xfetch (q := (some (0, v1), M)) rfl (hQ_opensIf x0 x4 x2 x3 M _ e_) ?_
      show xEv (163, 112, [some (13, x0), some (0, x1), some (0, x2), some (0, x3), some (0, x4)], [(0, v1)], M) _
      refine xEvG_n xml xfetch 1 (y := (163, if v1 = 0 then 135 else 115, [some (13, x0), some (0, x1), some (0, x2), some (0, x3), some (0, x4)], [], M)) rfl trivial ?_
      refine xEvG_br xml xfetch (fun c_ => ?_) (fun c_ => ?_)
      · have h := xif_t c_ h
        refine xEvG_n xml xfetch 2 (y := (163, 93, [some (13, x0), some (0, x1), some (0, x2), some (0, x3), some (0, (xw32 (x4 + 1)))], [], M)) rfl trivial ?_
        refine xEvG_mask xml xfetch [true, true, true, true, true] ?_
        exact (hQ_reaches_L93 k_52 hk_52 g) x0 x1 x2 x3 (xw32 (x4 + 1)) M _ h
      · have h := xif_f c_ h
        have a0_ := (xA_t h).1
        have h := (xA_t h).2
        refine xEvG_n xml xfetch 17 (y := (163, 93, [some (13, x0), some (0, x1), some (0, x2), some (0, x3), some (0, (xw32 (x4 + 1)))], [], (xwr M (x0 + 17) (xw32 ((xw32 (512 * (xw32 (x2 + 1)))) + (xor32 x3 (xshl 1 x4)))) (xbit 1)))) rfl ⟨a0_, trivial⟩ ?_
        refine xEvG_mask xml xfetch [true, true, true, true, true] ?_
        exact (hQ_reaches_L93 k_52 hk_52 g) x0 x1 x2 x3 (xw32 (x4 + 1)) (xwr M (x0 + 17) (xw32 ((xw32 (512 * (xw32 (x2 + 1)))) + (xor32 x3 (xshl 1 x4)))) (xbit 1)) _ h
    · have h := xif_f c_ h
      refine xEvG_n xml xfetch 2 (y := (163, 52, [some (13, x0), some (0, x1), some (0, x2), some (0, (xw32 (x3 + 1))), some (0, x4)], [], M)) rfl trivial ?_
      refine xEvG_mask xml xfetch [true, true, true, true, false] ?_
      exact hk_52 x0 x1 x2 (xw32 (x3 + 1)) M _ h
def fQ_reaches_L52 (k_40 : Int → Int → Int → xM → Option xM) : Nat → Int → Int → Int → Int → xM → Option xM
  | 0, _, _, _, _, _ => none
  | g + 1, x0, x1, x2, x3, M => if x3 < x1 then (xA (0 ≤ (xw32 ((xw32 (512 * x2)) + x3)) ∧ (xw32 ((xw32 (512 * x2)) + x3)) < 12800) (if (M (x0 + 17) (xw32 ((xw32 (512 * x2)) + x3))) = 0 then ((fQ_reaches_L52 k_40 g) x0 x1 x2 (xw32 (x3 + 1)) M) else (xA (0 ≤ (xw32 ((xw32 (512 * (xw32 (x2 + 1)))) + x3)) ∧ (xw32 ((xw32 (512 * (xw32 (x2 + 1)))) + x3)) < 12800) (fQ_reaches_L93 (fQ_reaches_L52 k_40 g) 20001 x0 x1 x2 x3 0 (xwr M (x0 + 17) (xw32 ((xw32 (512 * (xw32 (x2 + 1)))) + x3)) (xbit 1)))))) else (k_40 x0 x1 (xw32 (x2 + 1)) M)
theorem hQ_reaches_L52 (k_40 : Int → Int → Int → xM → Option xM) (hk_40 : ∀ (x0 x1 x2 : Int) (M : xM) (r : xM), k_40 x0 x1 x2 M = some r → xEv (163, 40, [some (13, x0), some (0, x1), some (0, x2), none, none], [], M) (none, r)) : ∀ (g : Nat) (x0 x1 x2 x3 : Int) (M : xM) (r : xM) (h : fQ_reaches_L52 k_40 g x0 x1 x2 x3 M = some r), xEv (163, 52, [some (13, x0), some (0, x1), some (0, x2), some (0, x3), none], [], M) (none, r)
  | 0, _, _, _, _, _, _, h => by cases h
  | g + 1, x0, x1, x2, x3, M, r, h => by
    unfold fQ_reaches_L52 at h
    refine xEvG_n xml xfetch 3 (y := (163, if x3 < x1 then 57 else 147, [some (13, x0), some (0, x1), some (0, x2), some (0, x3), none], [], M)) rfl trivial ?_
    refine xEvG_br xml xfetch (fun c_ => ?_) (fun c_ => ?_)
    · have h := xif_t c_ h
      have a0_ := (xA_t h).1
      have h := (xA_t h).2
      refine xEvG_n xml xfetch 9 (y := (163, if (M (x0 + 17) (xw32 ((xw32 (512 * x2)) + x3))) = 0 then 72 else 75, [some (13, x0), some (0, x1), some (0, x2), some (0, x3), none], [], M)) rfl ⟨a0_, trivial⟩ ?_
      refine xEvG_br xml xfetch (fun c_ => ?_) (fun c_ => ?_)
      · have h := xif_t c_ h
        refine xEvG_n xml xfetch 3 (y := (163, 52, [some (13, x0), some (0, x1), some (0, x2), some (0, (xw32 (x3 + 1))), none], [], M)) rfl trivial ?_
        refine xEvG_mask xml xfetch [true, true, true, true, false] ?_
        exact (hQ_reaches_L52 k_40 hk_40 g) x0 x1 x2 (xw32 (x3 + 1)) M _ h
      · have h := xif_f c_ h
        have a0_ := (xA_t h).1
        have h := (xA_t h).2
        refine xEvG_n xml xfetch 13 (y := (163, 93, [some (13, x0), some (0, x1), some (0, x2), some (0, x3), some (0, 0)], [], (xwr M (x0 + 17) (xw32 ((xw32 (512 * (xw32 (x2 + 1)))) + x3)) (xbit 1)))) rfl ⟨a0_, trivial⟩ ?_
        refine xEvG_mask xml xfetch [true, true, true, true, true] ?_
        exact hQ_reaches_L93 (fQ_reaches_L52 k_40 g) (hQ_reaches_L52 k_40 hk_40 g) 20001 x0 x1 x2 x3 0 (xwr M (x0 + 17) (xw32 ((xw32 (512 * (xw32 (x2 + 1)))) + x3)) (xbit 1)) _ h
    · have h := xif_f c_ h
      refine xEvG_n xml xfetch 2 (y := (163, 40, [some (13, x0), some (0, x1), some (0, (xw32 (x2 + 1))), some (0, x3), none], [], M)) rfl trivial ?_
      refine xEvG_mask xml xfetch [true, true, true, false, false] ?_
      exact hk_40 x0 x1 (xw32 (x2 + 1)) M _ h
def fQ_reaches_L40 : Nat → Int → Int → Int → xM → Option xM
  | 0, _, _, _, _ => none
  | g + 1, x0, x1, x2, M => if x2 < (M (x0 + 7) 1) then (fQ_reaches_L52 (fQ_reaches_L40 g) 20001 x0 x1 x2 0 M) else (some M)
theorem hQ_reaches_L40 : ∀ (g : Nat) (x0 x1 x2 : Int) (M : xM) (r : xM) (h : fQ_reaches_L40 g x0 x1 x2 M = some r), xEv (163, 40, [some (13, x0), some (0, x1), some (0, x2), none, none], [], M) (none, r)
  | 0, _, _, _, _, _, h => by cases h
  | g + 1, x0, x1, x2, M, r, h => by
    unfold fQ_reaches_L40 at h
    refine xEvG_n xml xfetch 6 (y := (163, if x2 < (M (x0 + 7) 1) then 50 else 153, [some (13, x0), some (0, x1), some (0, x2), none, none], [], M)) rfl ⟨by decide, trivial⟩ ?_
    refine xEvG_br xml xfetch (fun c_ => ?_) (fun c_ => ?_)
    · have h := xif_t c_ h
      refine xEvG_n xml xfetch 2 (y := (163, 52, [some (13, x0), some (0, x1), some (0, x2), some (0, 0), none], [], M)) rfl trivial ?_
      refine xEvG_mask xml xfetch [true, true, true, true, false] ?_
      exact hQ_reaches_L52 (fQ_reaches_L40 g) (hQ_reaches_L40 g) 20001 x0 x1 x2 0 M _ h
    · have h := xif_f c_ h
      cases h
      exact xEvG_ret xml xfetch rfl
def fQ_reaches_L2 : Nat → Int → Int → xM → Option xM
  | 0, _, _, _ => none
  | g + 1, x0, x1, M => if x1 < 12800 then (xA (0 ≤ x1 ∧ x1 < 12800) ((fQ_reaches_L2 g) x0 (xw32 (x1 + 1)) (xwr M (x0 + 17) x1 (xbit 0)))) else (fQ_reaches_L40 20001 x0 (xshl 1 ((xwr M (x0 + 17) 0 (xbit 1)) (x0 + 7) 0)) 0 (xwr M (x0 + 17) 0 (xbit 1)))
theorem hQ_reaches_L2 : ∀ (g : Nat) (x0 x1 : Int) (M : xM) (r : xM) (h : fQ_reaches_L2 g x0 x1 M = some r), xEv (163, 2, [some (13, x0), some (0, x1), none, none, none], [], M) (none, r)
  | 0, _, _, _, _, h => by cases h
  | g + 1, x0, x1, M, r, h => by
    unfold fQ_reaches_L2 at h
    refine xEvG_n xml xfetch 3 (y := (163, if x1 < 12800 then 9 else 22, [some (13, x0), some (0, x1), none, none, none], [], M)) rfl trivial ?_
    refine xEvG_br xml xfetch (fun c_ => ?_) (fun c_ => ?_)
    · have h := xif_t c_ h
      have a0_ := (xA_t h).1
      have h := (xA_t h).2
      refine xEvG_n xml xfetch 7 (y := (163, 2, [some (13, x0), some (0, (xw32 (x1 + 1))), none, none, none], [], (xwr M (x0 + 17) x1 (xbit 0)))) rfl ⟨a0_, trivial⟩ ?_
      refine xEvG_mask xml xfetch [true, true, false, false, false] ?_
      exact (hQ_reaches_L2 g) x0 (xw32 (x1 + 1)) (xwr M (x0 + 17) x1 (xbit 0)) _ h
    · have h := xif_f c_ h
      refine xEvG_n xml xfetch 14 (y := (163, 40, [some (13, x0), some (0, (xshl 1 ((xwr M (x0 + 17) 0 (xbit 1)) (x0 + 7) 0))), some (0, 0), none, none], [], (xwr M (x0 + 17) 0 (xbit 1)))) rfl ⟨by decide, by decide, trivial⟩ ?_
      refine xEvG_mask xml xfetch [true, true, true, false, false] ?_
      exact hQ_reaches_L40 20001 x0 (xshl 1 ((xwr M (x0 + 17) 0 (xbit 1)) (x0 + 7) 0)) 0 (xwr M (x0 + 17) 0 (xbit 1)) _ h
/-- ConsentDoorsModel.reaches()V -/
def fQ_reaches (a0 : Int) (M : xM) : Option xM := fQ_reaches_L2 20001 a0 0 M
theorem hQ_reaches (a0 : Int) (M : xM) (r : xM) (h : fQ_reaches a0 M = some r) : xEv (163, 0, [some (13, a0), none, none, none, none], [], M) (none, r) := by
  unfold fQ_reaches at h
  refine xEvG_n xml xfetch 2 (y := (163, 2, [some (13, a0), some (0, 0), none, none, none], [], M)) rfl trivial ?_
  refine xEvG_mask xml xfetch [true, true, false, false, false] ?_
  exact hQ_reaches_L2 20001 a0 0 M _ h

def fQ_mostAhead_L4 : Nat → Int → Int → Int → Int → xM → Option Int
  | 0, _, _, _, _, _ => none
  | g + 1, x0, x1, x2, x3, M => if x3 < (xshl 1 (M (x0 + 7) 0)) then (xA (0 ≤ (xw32 ((xw32 (512 * x1)) + x3)) ∧ (xw32 ((xw32 (512 * x1)) + x3)) < 12800) (if (M (x0 + 17) (xw32 ((xw32 (512 * x1)) + x3))) = 0 then ((fQ_mostAhead_L4 g) x0 x1 x2 (xw32 (x3 + 1)) M) else (xB (fQ_sizeOf x3 M) (fun v1 => if x2 < v1 then (xB (fQ_sizeOf x3 M) (fun v2 => (fQ_mostAhead_L4 g) x0 x1 v2 (xw32 (x3 + 1)) M)) else ((fQ_mostAhead_L4 g) x0 x1 x2 (xw32 (x3 + 1)) M))))) else (some x2)
theorem hQ_mostAhead_L4 : ∀ (g : Nat) (x0 x1 x2 x3 : Int) (M : xM) (r : Int) (h : fQ_mostAhead_L4 g x0 x1 x2 x3 M = some r), xEv (164, 4, [some (13, x0), some (0, x1), some (0, x2), some (0, x3)], [], M) (some (0, r), M)
  | 0, _, _, _, _, _, _, h => by cases h
  | g + 1, x0, x1, x2, x3, M, r, h => by
    unfold fQ_mostAhead_L4 at h
    refine xEvG_n xml xfetch 8 (y := (164, if x3 < (xshl 1 (M (x0 + 7) 0)) then 16 else 50, [some (13, x0), some (0, x1), some (0, x2), some (0, x3)], [], M)) rfl ⟨by decide, trivial⟩ ?_
    refine xEvG_br xml xfetch (fun c_ => ?_) (fun c_ => ?_)
    · have h := xif_t c_ h
      have a0_ := (xA_t h).1
      have h := (xA_t h).2
      refine xEvG_n xml xfetch 9 (y := (164, if (M (x0 + 17) (xw32 ((xw32 (512 * x1)) + x3))) = 0 then 44 else 31, [some (13, x0), some (0, x1), some (0, x2), some (0, x3)], [], M)) rfl ⟨a0_, trivial⟩ ?_
      refine xEvG_br xml xfetch (fun c_ => ?_) (fun c_ => ?_)
      · have h := xif_t c_ h
        refine xEvG_n xml xfetch 2 (y := (164, 4, [some (13, x0), some (0, x1), some (0, x2), some (0, (xw32 (x3 + 1)))], [], M)) rfl trivial ?_
        refine xEvG_mask xml xfetch [true, true, true, true] ?_
        exact (hQ_mostAhead_L4 g) x0 x1 x2 (xw32 (x3 + 1)) M _ h
      · have h := xif_f c_ h
        refine xEvG_n xml xfetch 1 (y := (164, 32, [some (13, x0), some (0, x1), some (0, x2), some (0, x3)], [(0, x3)], M)) rfl trivial ?_
        obtain ⟨v1, e_, h⟩ := xB_t h
        refine xEvG_call xml xfetch (q := (some (0, v1), M)) rfl (hQ_sizeOf x3 M _ e_) ?_
        show xEv (164, 35, [some (13, x0), some (0, x1), some (0, x2), some (0, x3)], [(0, v1)], M) _
        refine xEvG_n xml xfetch 2 (y := (164, if x2 < v1 then 39 else 44, [some (13, x0), some (0, x1), some (0, x2), some (0, x3)], [], M)) rfl trivial ?_
        refine xEvG_br xml xfetch (fun c_ => ?_) (fun c_ => ?_)
        · have h := xif_t c_ h
          refine xEvG_n xml xfetch 1 (y := (164, 40, [some (13, x0), some (0, x1), some (0, x2), some (0, x3)], [(0, x3)], M)) rfl trivial ?_
          obtain ⟨v2, e_, h⟩ := xB_t h
          refine xEvG_call xml xfetch (q := (some (0, v2), M)) rfl (hQ_sizeOf x3 M _ e_) ?_
          show xEv (164, 43, [some (13, x0), some (0, x1), some (0, x2), some (0, x3)], [(0, v2)], M) _
          refine xEvG_n xml xfetch 3 (y := (164, 4, [some (13, x0), some (0, x1), some (0, v2), some (0, (xw32 (x3 + 1)))], [], M)) rfl trivial ?_
          refine xEvG_mask xml xfetch [true, true, true, true] ?_
          exact (hQ_mostAhead_L4 g) x0 x1 v2 (xw32 (x3 + 1)) M _ h
        · have h := xif_f c_ h
          refine xEvG_n xml xfetch 2 (y := (164, 4, [some (13, x0), some (0, x1), some (0, x2), some (0, (xw32 (x3 + 1)))], [], M)) rfl trivial ?_
          refine xEvG_mask xml xfetch [true, true, true, true] ?_
          exact (hQ_mostAhead_L4 g) x0 x1 x2 (xw32 (x3 + 1)) M _ h
    · have h := xif_f c_ h
      refine xEvG_n xml xfetch 1 (y := (164, 51, [some (13, x0), some (0, x1), some (0, x2), some (0, x3)], [(0, x2)], M)) rfl trivial ?_
      cases h
      exact xEvG_ret xml xfetch rfl
/-- ConsentDoorsModel.mostAhead(I)I -/
def fQ_mostAhead (a0 a1 : Int) (M : xM) : Option Int := fQ_mostAhead_L4 20001 a0 a1 0 0 M
theorem hQ_mostAhead (a0 a1 : Int) (M : xM) (r : Int) (h : fQ_mostAhead a0 a1 M = some r) : xEv (164, 0, [some (13, a0), some (0, a1), none, none], [], M) (some (0, r), M) := by
  unfold fQ_mostAhead at h
  refine xEvG_n xml xfetch 4 (y := (164, 4, [some (13, a0), some (0, a1), some (0, 0), some (0, 0)], [], M)) rfl trivial ?_
  refine xEvG_mask xml xfetch [true, true, true, true] ?_
  exact hQ_mostAhead_L4 20001 a0 a1 0 0 M _ h

/-- ConsentDoorsModel.mostNow()I -/
def fQ_mostNow (a0 : Int) (M : xM) : Option (Int × xM) := xB (fQ_laysWould a0 M) (fun m1 => xB (fQ_reaches a0 m1) (fun m2 => xB (fQ_mostAhead a0 (m2 (a0 + 7) 1) m2) (fun v3 => some (v3, m2))))
theorem hQ_mostNow (a0 : Int) (M : xM) (r : Int × xM) (h : fQ_mostNow a0 M = some r) : xEv (165, 0, [some (13, a0)], [], M) (some (0, r.1), r.2) := by
  unfold fQ_mostNow at h
  refine xEvG_n xml xfetch 1 (y := (165, 1, [some (13, a0)], [(13, a0)], M)) rfl trivial ?_
  obtain ⟨m1, e_, h⟩ := xB_t h
  refine xEvG_call xml xfetch (q := (none, m1)) rfl (hQ_laysWould a0 M _ e_) ?_
  show xEv (165, 4, [some (13, a0)], [], m1) _
  refine xEvG_n xml xfetch 1 (y := (165, 5, [some (13, a0)], [(13, a0)], m1)) rfl trivial ?_
  obtain ⟨m2, e_, h⟩ := xB_t h
  refine xEvG_call xml xfetch (q := (none, m2)) rfl (hQ_reaches a0 m1 _ e_) ?_
  show xEv (165, 8, [some (13, a0)], [], m2) _
  refine xEvG_n xml xfetch 5 (y := (165, 15, [some (13, a0)], [(0, (m2 (a0 + 7) 1)), (13, a0)], m2)) rfl ⟨by decide, trivial⟩ ?_
  obtain ⟨v3, e_, h⟩ := xB_t h
  refine xEvG_call xml xfetch (q := (some (0, v3), m2)) rfl (hQ_mostAhead a0 (m2 (a0 + 7) 1) m2 _ e_) ?_
  show xEv (165, 18, [some (13, a0)], [(0, v3)], m2) _
  cases h
  exact xEvG_ret xml xfetch rfl

/-- ConsentDoorsModel.mostPlain()I -/
def fQ_mostPlain (a0 : Int) (M : xM) : Option (Int × xM) := xB (fQ_mostNow a0 (fQ_plainly a0 M)) (fun q_ => match q_ with | (v2, m2) => some (v2, m2))
theorem hQ_mostPlain (a0 : Int) (M : xM) (r : Int × xM) (h : fQ_mostPlain a0 M = some r) : xEv (166, 0, [some (13, a0)], [], M) (some (0, r.1), r.2) := by
  unfold fQ_mostPlain at h
  refine xEvG_n xml xfetch 1 (y := (166, 1, [some (13, a0)], [(13, a0)], M)) rfl trivial ?_
  refine xEvG_call xml xfetch (q := (none, fQ_plainly a0 M)) rfl (hQ_plainly a0 M _ rfl) ?_
  show xEv (166, 4, [some (13, a0)], [], (fQ_plainly a0 M)) _
  refine xEvG_n xml xfetch 1 (y := (166, 5, [some (13, a0)], [(13, a0)], (fQ_plainly a0 M))) rfl trivial ?_
  obtain ⟨⟨v2, m2⟩, e_, h⟩ := xB_t h
  refine xEvG_call xml xfetch (q := (some (0, v2), m2)) rfl (hQ_mostNow a0 (fQ_plainly a0 M) _ e_) ?_
  show xEv (166, 8, [some (13, a0)], [(0, v2)], m2) _
  cases h
  exact xEvG_ret xml xfetch rfl

/-- ConsentDoorsModel.most(I)I -/
def fQ_most (a0 a1 : Int) (M : xM) : Option (Int × xM) := if (fQ_isHour a0 a1 (xwr M a0 0 0)) = 0 then (some ((-2), (xwr M a0 0 0))) else (xB (fQ_mostPlain a0 (xwr M a0 0 0)) (fun q_ => match q_ with | (v2, m2) => xB (fQ_mostAhead a0 (xw32 (a1 + 1)) m2) (fun v3 => some (v3, m2))))
theorem hQ_most (a0 a1 : Int) (M : xM) (r : Int × xM) (h : fQ_most a0 a1 M = some r) : xEv (168, 0, [some (13, a0), some (0, a1)], [], M) (some (0, r.1), r.2) := by
  unfold fQ_most at h
  refine xEvG_n xml xfetch 6 (y := (168, 8, [some (13, a0), some (0, a1)], [(1, a1), (13, a0)], (xwr M a0 0 0))) rfl trivial ?_
  refine xEvG_call xml xfetch (q := (some (0, fQ_isHour a0 a1 (xwr M a0 0 0)), (xwr M a0 0 0))) rfl (hQ_isHour a0 a1 (xwr M a0 0 0) _ rfl) ?_
  show xEv (168, 11, [some (13, a0), some (0, a1)], [(0, (fQ_isHour a0 a1 (xwr M a0 0 0)))], (xwr M a0 0 0)) _
  refine xEvG_n xml xfetch 1 (y := (168, if (fQ_isHour a0 a1 (xwr M a0 0 0)) = 0 then 14 else 17, [some (13, a0), some (0, a1)], [], (xwr M a0 0 0))) rfl trivial ?_
  refine xEvG_br xml xfetch (fun c_ => ?_) (fun c_ => ?_)
  · have h := xif_t c_ h
    refine xEvG_n xml xfetch 1 (y := (168, 16, [some (13, a0), some (0, a1)], [(0, (-2))], (xwr M a0 0 0))) rfl trivial ?_
    cases h
    exact xEvG_ret xml xfetch rfl
  · have h := xif_f c_ h
    refine xEvG_n xml xfetch 1 (y := (168, 18, [some (13, a0), some (0, a1)], [(13, a0)], (xwr M a0 0 0))) rfl trivial ?_
    obtain ⟨⟨v2, m2⟩, e_, h⟩ := xB_t h
    refine xEvG_call xml xfetch (q := (some (0, v2), m2)) rfl (hQ_mostPlain a0 (xwr M a0 0 0) _ e_) ?_
    show xEv (168, 21, [some (13, a0), some (0, a1)], [(0, v2)], m2) _
    refine xEvG_n xml xfetch 5 (y := (168, 26, [some (13, a0), some (0, a1)], [(0, (xw32 (a1 + 1))), (13, a0)], m2)) rfl trivial ?_
    obtain ⟨v3, e_, h⟩ := xB_t h
    refine xEvG_call xml xfetch (q := (some (0, v3), m2)) rfl (hQ_mostAhead a0 (xw32 (a1 + 1)) m2 _ e_) ?_
    show xEv (168, 29, [some (13, a0), some (0, a1)], [(0, v3)], m2) _
    cases h
    exact xEvG_ret xml xfetch rfl

def fQ_laysFinals_L82 (k_56 : Int → Int → Int → Int → xM → Option xM) : Nat → Int → Int → Int → Int → Int → Int → xM → Option xM
  | 0, _, _, _, _, _, _, _ => none
  | g + 1, x0, x1, x3, x4, x5, x6, M => if x6 < (M (x0 + 7) 0) then (xB (fQ_opensIf x0 x6 x3 x4 M) (fun v2 => if v2 = 0 then ((fQ_laysFinals_L82 k_56 g) x0 x1 x3 x4 x5 (xw32 (x6 + 1)) M) else (xA (0 ≤ (xw32 ((xw32 (512 * (xw32 (x3 + 1)))) + (xor32 x4 (xshl 1 x6)))) ∧ (xw32 ((xw32 (512 * (xw32 (x3 + 1)))) + (xor32 x4 (xshl 1 x6)))) < 12800) (if x5 < (M (x0 + 18) (xw32 ((xw32 (512 * (xw32 (x3 + 1)))) + (xor32 x4 (xshl 1 x6))))) then ((fQ_laysFinals_L82 k_56 g) x0 x1 x3 x4 (M (x0 + 18) (xw32 ((xw32 (512 * (xw32 (x3 + 1)))) + (xor32 x4 (xshl 1 x6))))) (xw32 (x6 + 1)) M) else ((fQ_laysFinals_L82 k_56 g) x0 x1 x3 x4 x5 (xw32 (x6 + 1)) M))))) else (xA (0 ≤ (xw32 ((xw32 (512 * x3)) + x4)) ∧ (xw32 ((xw32 (512 * x3)) + x4)) < 12800) (k_56 x0 x1 x3 (xw32 (x4 + 1)) (xwr M (x0 + 18) (xw32 ((xw32 (512 * x3)) + x4)) x5)))
theorem hQ_laysFinals_L82 (k_56 : Int → Int → Int → Int → xM → Option xM) (hk_56 : ∀ (x0 x1 x3 x4 : Int) (M : xM) (r : xM), k_56 x0 x1 x3 x4 M = some r → xEv (167, 56, [some (13, x0), some (0, x1), none, some (0, x3), some (0, x4), none, none, none], [], M) (none, r)) : ∀ (g : Nat) (x0 x1 x3 x4 x5 x6 : Int) (M : xM) (r : xM) (h : fQ_laysFinals_L82 k_56 g x0 x1 x3 x4 x5 x6 M = some r), xEv (167, 82, [some (13, x0), some (0, x1), none, some (0, x3), some (0, x4), some (0, x5), some (0, x6), none], [], M) (none, r)
  | 0, _, _, _, _, _, _, _, _, h => by cases h
  | g + 1, x0, x1, x3, x4, x5, x6, M, r, h => by
    unfold fQ_laysFinals_L82 at h
    refine xEvG_n xml xfetch 6 (y := (167, if x6 < (M (x0 + 7) 0) then 93 else 152, [some (13, x0), some (0, x1), none, some (0, x3), some (0, x4), some (0, x5), some (0, x6), none], [], M)) rfl ⟨by decide, trivial⟩ ?_
    refine xEvG_br xml xfetch (fun c_ => ?_) (fun c_ => ?_)
    · have h := xif_t c_ h
      refine xEvG_n xml xfetch 4 (y := (167, 99, [some (13, x0), some (0, x1), none, some (0, x3), some (0, x4), some (0, x5), some (0, x6), none], [(0, x4), (0, x3), (0, x6), (13, x0)], M)) rfl trivial ?_
      obtain ⟨v2, e_, h⟩ := xB_t h
      refine xEvG_call xml xfetch (q := (some (0, v2), M)) rfl (hQ_opensIf x0 x6 x3 x4 M _ e_) ?_
      show xEv (167, 102, [some (13, x0), some (0, x1), none, some (0, x3), some (0, x4), some (0, x5), some (0, x6), none], [(0, v2)], M) _
      refine xEvG_n xml xfetch 1 (y := (167, if v2 = 0 then 105 else 108, [some (13, x0), some (0, x1), none, some (0, x3), some (0, x4), some (0, x5), some (0, x6), none], [], M)) rfl trivial ?_
      refine xEvG_br xml xfetch (fun c_ => ?_) (fun c_ => ?_)
      · have h := xif_t c_ h
        refine xEvG_n xml xfetch 3 (y := (167, 82, [some (13, x0), some (0, x1), none, some (0, x3), some (0, x4), some (0, x5), some (0, (xw32 (x6 + 1))), none], [], M)) rfl trivial ?_
        refine xEvG_mask xml xfetch [true, true, false, true, true, true, true, false] ?_
        exact (hQ_laysFinals_L82 k_56 hk_56 g) x0 x1 x3 x4 x5 (xw32 (x6 + 1)) M _ h
      · have h := xif_f c_ h
        have a0_ := (xA_t h).1
        have h := (xA_t h).2
        refine xEvG_n xml xfetch 18 (y := (167, if x5 < (M (x0 + 18) (xw32 ((xw32 (512 * (xw32 (x3 + 1)))) + (xor32 x4 (xshl 1 x6))))) then 137 else 142, [some (13, x0), some (0, x1), none, some (0, x3), some (0, x4), some (0, x5), some (0, x6), some (0, (M (x0 + 18) (xw32 ((xw32 (512 * (xw32 (x3 + 1)))) + (xor32 x4 (xshl 1 x6))))))], [], M)) rfl ⟨a0_, trivial⟩ ?_
        refine xEvG_br xml xfetch (fun c_ => ?_) (fun c_ => ?_)
        · have h := xif_t c_ h
          refine xEvG_n xml xfetch 5 (y := (167, 82, [some (13, x0), some (0, x1), none, some (0, x3), some (0, x4), some (0, (M (x0 + 18) (xw32 ((xw32 (512 * (xw32 (x3 + 1)))) + (xor32 x4 (xshl 1 x6)))))), some (0, (xw32 (x6 + 1))), some (0, (M (x0 + 18) (xw32 ((xw32 (512 * (xw32 (x3 + 1)))) + (xor32 x4 (xshl 1 x6))))))], [], M)) rfl trivial ?_
          refine xEvG_mask xml xfetch [true, true, false, true, true, true, true, false] ?_
          exact (hQ_laysFinals_L82 k_56 hk_56 g) x0 x1 x3 x4 (M (x0 + 18) (xw32 ((xw32 (512 * (xw32 (x3 + 1)))) + (xor32 x4 (xshl 1 x6))))) (xw32 (x6 + 1)) M _ h
        · have h := xif_f c_ h
          refine xEvG_n xml xfetch 4 (y := (167, 82, [some (13, x0), some (0, x1), none, some (0, x3), some (0, x4), some (0, x5), some (0, (xw32 (x6 + 1))), some (0, (M (x0 + 18) (xw32 ((xw32 (512 * (xw32 (x3 + 1)))) + (xor32 x4 (xshl 1 x6))))))], [], M)) rfl trivial ?_
          refine xEvG_mask xml xfetch [true, true, false, true, true, true, true, false] ?_
          exact (hQ_laysFinals_L82 k_56 hk_56 g) x0 x1 x3 x4 x5 (xw32 (x6 + 1)) M _ h
    · have h := xif_f c_ h
      have a0_ := (xA_t h).1
      have h := (xA_t h).2
      refine xEvG_n xml xfetch 11 (y := (167, 56, [some (13, x0), some (0, x1), none, some (0, x3), some (0, (xw32 (x4 + 1))), some (0, x5), some (0, x6), none], [], (xwr M (x0 + 18) (xw32 ((xw32 (512 * x3)) + x4)) x5))) rfl ⟨a0_, trivial⟩ ?_
      refine xEvG_mask xml xfetch [true, true, false, true, true, false, false, false] ?_
      exact hk_56 x0 x1 x3 (xw32 (x4 + 1)) (xwr M (x0 + 18) (xw32 ((xw32 (512 * x3)) + x4)) x5) _ h
def fQ_laysFinals_L56 (k_49 : Int → Int → Int → xM → Option xM) : Nat → Int → Int → Int → Int → xM → Option xM
  | 0, _, _, _, _, _ => none
  | g + 1, x0, x1, x3, x4, M => if x4 < x1 then (xA (0 ≤ (xw32 ((xw32 (512 * (xw32 (x3 + 1)))) + x4)) ∧ (xw32 ((xw32 (512 * (xw32 (x3 + 1)))) + x4)) < 12800) (fQ_laysFinals_L82 (fQ_laysFinals_L56 k_49 g) 20001 x0 x1 x3 x4 (M (x0 + 18) (xw32 ((xw32 (512 * (xw32 (x3 + 1)))) + x4))) 0 M)) else (k_49 x0 x1 (xw32 (x3 + (-1))) M)
theorem hQ_laysFinals_L56 (k_49 : Int → Int → Int → xM → Option xM) (hk_49 : ∀ (x0 x1 x3 : Int) (M : xM) (r : xM), k_49 x0 x1 x3 M = some r → xEv (167, 49, [some (13, x0), some (0, x1), none, some (0, x3), none, none, none, none], [], M) (none, r)) : ∀ (g : Nat) (x0 x1 x3 x4 : Int) (M : xM) (r : xM) (h : fQ_laysFinals_L56 k_49 g x0 x1 x3 x4 M = some r), xEv (167, 56, [some (13, x0), some (0, x1), none, some (0, x3), some (0, x4), none, none, none], [], M) (none, r)
  | 0, _, _, _, _, _, _, h => by cases h
  | g + 1, x0, x1, x3, x4, M, r, h => by
    unfold fQ_laysFinals_L56 at h
    refine xEvG_n xml xfetch 3 (y := (167, if x4 < x1 then 62 else 173, [some (13, x0), some (0, x1), none, some (0, x3), some (0, x4), none, none, none], [], M)) rfl trivial ?_
    refine xEvG_br xml xfetch (fun c_ => ?_) (fun c_ => ?_)
    · have h := xif_t c_ h
      have a0_ := (xA_t h).1
      have h := (xA_t h).2
      refine xEvG_n xml xfetch 13 (y := (167, 82, [some (13, x0), some (0, x1), none, some (0, x3), some (0, x4), some (0, (M (x0 + 18) (xw32 ((xw32 (512 * (xw32 (x3 + 1)))) + x4)))), some (0, 0), none], [], M)) rfl ⟨a0_, trivial⟩ ?_
      refine xEvG_mask xml xfetch [true, true, false, true, true, true, true, false] ?_
      exact hQ_laysFinals_L82 (fQ_laysFinals_L56 k_49 g) (hQ_laysFinals_L56 k_49 hk_49 g) 20001 x0 x1 x3 x4 (M (x0 + 18) (xw32 ((xw32 (512 * (xw32 (x3 + 1)))) + x4))) 0 M _ h
    · have h := xif_f c_ h
      refine xEvG_n xml xfetch 2 (y := (167, 49, [some (13, x0), some (0, x1), none, some (0, (xw32 (x3 + (-1)))), some (0, x4), none, none, none], [], M)) rfl trivial ?_
      refine xEvG_mask xml xfetch [true, true, false, true, false, false, false, false] ?_
      exact hk_49 x0 x1 (xw32 (x3 + (-1))) M _ h
def fQ_laysFinals_L49 : Nat → Int → Int → Int → xM → Option xM
  | 0, _, _, _, _ => none
  | g + 1, x0, x1, x3, M => if x3 < 0 then (some M) else (fQ_laysFinals_L56 (fQ_laysFinals_L49 g) 20001 x0 x1 x3 0 M)
theorem hQ_laysFinals_L49 : ∀ (g : Nat) (x0 x1 x3 : Int) (M : xM) (r : xM) (h : fQ_laysFinals_L49 g x0 x1 x3 M = some r), xEv (167, 49, [some (13, x0), some (0, x1), none, some (0, x3), none, none, none, none], [], M) (none, r)
  | 0, _, _, _, _, _, h => by cases h
  | g + 1, x0, x1, x3, M, r, h => by
    unfold fQ_laysFinals_L49 at h
    refine xEvG_n xml xfetch 2 (y := (167, if x3 < 0 then 179 else 53, [some (13, x0), some (0, x1), none, some (0, x3), none, none, none, none], [], M)) rfl trivial ?_
    refine xEvG_br xml xfetch (fun c_ => ?_) (fun c_ => ?_)
    · have h := xif_t c_ h
      cases h
      exact xEvG_ret xml xfetch rfl
    · have h := xif_f c_ h
      refine xEvG_n xml xfetch 2 (y := (167, 56, [some (13, x0), some (0, x1), none, some (0, x3), some (0, 0), none, none, none], [], M)) rfl trivial ?_
      refine xEvG_mask xml xfetch [true, true, false, true, true, false, false, false] ?_
      exact hQ_laysFinals_L56 (fQ_laysFinals_L49 g) (hQ_laysFinals_L49 g) 20001 x0 x1 x3 0 M _ h
def fQ_laysFinals_L18 : Nat → Int → Int → Int → Int → xM → Option xM
  | 0, _, _, _, _, _ => none
  | g + 1, x0, x1, x2, x3, M => if x3 < x1 then (xB (fQ_sizeOf x3 M) (fun v1 => xA (0 ≤ (xw32 ((xw32 (512 * x2)) + x3)) ∧ (xw32 ((xw32 (512 * x2)) + x3)) < 12800) ((fQ_laysFinals_L18 g) x0 x1 x2 (xw32 (x3 + 1)) (xwr M (x0 + 18) (xw32 ((xw32 (512 * x2)) + x3)) v1)))) else (fQ_laysFinals_L49 20001 x0 x1 (xw32 (x2 - 1)) M)
theorem hQ_laysFinals_L18 : ∀ (g : Nat) (x0 x1 x2 x3 : Int) (M : xM) (r : xM) (h : fQ_laysFinals_L18 g x0 x1 x2 x3 M = some r), xEv (167, 18, [some (13, x0), some (0, x1), some (0, x2), some (0, x3), none, none, none, none], [], M) (none, r)
  | 0, _, _, _, _, _, _, h => by cases h
  | g + 1, x0, x1, x2, x3, M, r, h => by
    unfold fQ_laysFinals_L18 at h
    refine xEvG_n xml xfetch 3 (y := (167, if x3 < x1 then 23 else 45, [some (13, x0), some (0, x1), some (0, x2), some (0, x3), none, none, none, none], [], M)) rfl trivial ?_
    refine xEvG_br xml xfetch (fun c_ => ?_) (fun c_ => ?_)
    · have h := xif_t c_ h
      refine xEvG_n xml xfetch 8 (y := (167, 35, [some (13, x0), some (0, x1), some (0, x2), some (0, x3), none, none, none, none], [(0, x3), (0, (xw32 ((xw32 (512 * x2)) + x3))), (40, (x0 + 18))], M)) rfl trivial ?_
      obtain ⟨v1, e_, h⟩ := xB_t h
      refine xEvG_call xml xfetch (q := (some (0, v1), M)) rfl (hQ_sizeOf x3 M _ e_) ?_
      show xEv (167, 38, [some (13, x0), some (0, x1), some (0, x2), some (0, x3), none, none, none, none], [(0, v1), (0, (xw32 ((xw32 (512 * x2)) + x3))), (40, (x0 + 18))], M) _
      have a0_ := (xA_t h).1
      have h := (xA_t h).2
      refine xEvG_n xml xfetch 3 (y := (167, 18, [some (13, x0), some (0, x1), some (0, x2), some (0, (xw32 (x3 + 1))), none, none, none, none], [], (xwr M (x0 + 18) (xw32 ((xw32 (512 * x2)) + x3)) v1))) rfl ⟨a0_, trivial⟩ ?_
      refine xEvG_mask xml xfetch [true, true, true, true, false, false, false, false] ?_
      exact (hQ_laysFinals_L18 g) x0 x1 x2 (xw32 (x3 + 1)) (xwr M (x0 + 18) (xw32 ((xw32 (512 * x2)) + x3)) v1) _ h
    · have h := xif_f c_ h
      refine xEvG_n xml xfetch 4 (y := (167, 49, [some (13, x0), some (0, x1), some (0, x2), some (0, (xw32 (x2 - 1))), none, none, none, none], [], M)) rfl trivial ?_
      refine xEvG_mask xml xfetch [true, true, false, true, false, false, false, false] ?_
      exact hQ_laysFinals_L49 20001 x0 x1 (xw32 (x2 - 1)) M _ h
/-- ConsentDoorsModel.laysFinals()V -/
def fQ_laysFinals (a0 : Int) (M : xM) : Option xM := fQ_laysFinals_L18 20001 a0 (xshl 1 (M (a0 + 7) 0)) (M (a0 + 7) 1) 0 M
theorem hQ_laysFinals (a0 : Int) (M : xM) (r : xM) (h : fQ_laysFinals a0 M = some r) : xEv (167, 0, [some (13, a0), none, none, none, none, none, none, none], [], M) (none, r) := by
  unfold fQ_laysFinals at h
  refine xEvG_n xml xfetch 14 (y := (167, 18, [some (13, a0), some (0, (xshl 1 (M (a0 + 7) 0))), some (0, (M (a0 + 7) 1)), some (0, 0), none, none, none, none], [], M)) rfl ⟨by decide, by decide, trivial⟩ ?_
  refine xEvG_mask xml xfetch [true, true, true, true, false, false, false, false] ?_
  exact hQ_laysFinals_L18 20001 a0 (xshl 1 (M (a0 + 7) 0)) (M (a0 + 7) 1) 0 M _ h

def fQ_best_L43 (k_32 : Int → Int → Int → Int → Int → xM → Option (Int × xM)) : Nat → Int → Int → Int → Int → Int → Int → xM → Option (Int × xM)
  | 0, _, _, _, _, _, _, _ => none
  | g + 1, x0, x1, x2, x3, x4, x5, M => if x5 < (M (x0 + 7) 0) then (xA (0 ≤ (xw32 ((xw32 (512 * (xw32 (x4 + 1)))) + x2)) ∧ (xw32 ((xw32 (512 * (xw32 (x4 + 1)))) + x2)) < 12800) (if (M (x0 + 18) (xw32 ((xw32 (512 * (xw32 (x4 + 1)))) + x2))) < (M (x0 + 18) 0) then (if x3 = (-1) then (xB (fQ_opensIf x0 x5 x4 x2 M) (fun v4 => if v4 = 0 then ((fQ_best_L43 k_32 g) x0 x1 x2 x3 x4 (xw32 (x5 + 1)) M) else (xA (0 ≤ (xw32 ((xw32 (512 * (xw32 (x4 + 1)))) + (xor32 x2 (xshl 1 x5)))) ∧ (xw32 ((xw32 (512 * (xw32 (x4 + 1)))) + (xor32 x2 (xshl 1 x5)))) < 12800) (if (M (x0 + 18) (xw32 ((xw32 (512 * (xw32 (x4 + 1)))) + (xor32 x2 (xshl 1 x5))))) = (M (x0 + 18) 0) then ((fQ_best_L43 k_32 g) x0 x1 x2 x5 x4 (xw32 (x5 + 1)) M) else ((fQ_best_L43 k_32 g) x0 x1 x2 x3 x4 (xw32 (x5 + 1)) M))))) else (if x3 = (-1) then (k_32 x0 x1 x2 x3 (xw32 (x4 + 1)) M) else (k_32 x0 x1 (xor32 x2 (xshl 1 x3)) x3 (xw32 (x4 + 1)) M))) else (if x3 = (-1) then (k_32 x0 x1 x2 x3 (xw32 (x4 + 1)) M) else (k_32 x0 x1 (xor32 x2 (xshl 1 x3)) x3 (xw32 (x4 + 1)) M)))) else (if x3 = (-1) then (k_32 x0 x1 x2 x3 (xw32 (x4 + 1)) M) else (k_32 x0 x1 (xor32 x2 (xshl 1 x3)) x3 (xw32 (x4 + 1)) M))
theorem hQ_best_L43 (k_32 : Int → Int → Int → Int → Int → xM → Option (Int × xM)) (hk_32 : ∀ (x0 x1 x2 x3 x4 : Int) (M : xM) (r : Int × xM), k_32 x0 x1 x2 x3 x4 M = some r → xEv (169, 32, [some (13, x0), some (0, x1), some (0, x2), some (0, x3), some (0, x4), none], [], M) (some (0, r.1), r.2)) : ∀ (g : Nat) (x0 x1 x2 x3 x4 x5 : Int) (M : xM) (r : Int × xM) (h : fQ_best_L43 k_32 g x0 x1 x2 x3 x4 x5 M = some r), xEv (169, 43, [some (13, x0), some (0, x1), some (0, x2), some (0, x3), some (0, x4), some (0, x5)], [], M) (some (0, r.1), r.2)
  | 0, _, _, _, _, _, _, _, _, h => by cases h
  | g + 1, x0, x1, x2, x3, x4, x5, M, r, h => by
    unfold fQ_best_L43 at h
    refine xEvG_n xml xfetch 6 (y := (169, if x5 < (M (x0 + 7) 0) then 54 else 133, [some (13, x0), some (0, x1), some (0, x2), some (0, x3), some (0, x4), some (0, x5)], [], M)) rfl ⟨by decide, trivial⟩ ?_
    refine xEvG_br xml xfetch (fun c_ => ?_) (fun c_ => ?_)
    · have h := xif_t c_ h
      have a0_ := (xA_t h).1
      have h := (xA_t h).2
      refine xEvG_n xml xfetch 15 (y := (169, if (M (x0 + 18) (xw32 ((xw32 (512 * (xw32 (x4 + 1)))) + x2))) < (M (x0 + 18) 0) then 78 else 133, [some (13, x0), some (0, x1), some (0, x2), some (0, x3), some (0, x4), some (0, x5)], [], M)) rfl ⟨a0_, by decide, trivial⟩ ?_
      refine xEvG_br xml xfetch (fun c_ => ?_) (fun c_ => ?_)
      · have h := xif_t c_ h
        refine xEvG_n xml xfetch 3 (y := (169, if x3 = (-1) then 83 else 133, [some (13, x0), some (0, x1), some (0, x2), some (0, x3), some (0, x4), some (0, x5)], [], M)) rfl trivial ?_
        refine xEvG_br xml xfetch (fun c_ => ?_) (fun c_ => ?_)
        · have h := xif_t c_ h
          refine xEvG_n xml xfetch 4 (y := (169, 89, [some (13, x0), some (0, x1), some (0, x2), some (0, x3), some (0, x4), some (0, x5)], [(0, x2), (0, x4), (0, x5), (13, x0)], M)) rfl trivial ?_
          obtain ⟨v4, e_, h⟩ := xB_t h
          refine xEvG_call xml xfetch (q := (some (0, v4), M)) rfl (hQ_opensIf x0 x5 x4 x2 M _ e_) ?_
          show xEv (169, 92, [some (13, x0), some (0, x1), some (0, x2), some (0, x3), some (0, x4), some (0, x5)], [(0, v4)], M) _
          refine xEvG_n xml xfetch 1 (y := (169, if v4 = 0 then 127 else 95, [some (13, x0), some (0, x1), some (0, x2), some (0, x3), some (0, x4), some (0, x5)], [], M)) rfl trivial ?_
          refine xEvG_br xml xfetch (fun c_ => ?_) (fun c_ => ?_)
          · have h := xif_t c_ h
            refine xEvG_n xml xfetch 2 (y := (169, 43, [some (13, x0), some (0, x1), some (0, x2), some (0, x3), some (0, x4), some (0, (xw32 (x5 + 1)))], [], M)) rfl trivial ?_
            refine xEvG_mask xml xfetch [true, true, true, true, true, true] ?_
            exact (hQ_best_L43 k_32 hk_32 g) x0 x1 x2 x3 x4 (xw32 (x5 + 1)) M _ h
          · have h := xif_f c_ h
            have a0_ := (xA_t h).1
            have h := (xA_t h).2
            refine xEvG_n xml xfetch 19 (y := (169, if (M (x0 + 18) (xw32 ((xw32 (512 * (xw32 (x4 + 1)))) + (xor32 x2 (xshl 1 x5))))) = (M (x0 + 18) 0) then 124 else 127, [some (13, x0), some (0, x1), some (0, x2), some (0, x3), some (0, x4), some (0, x5)], [], M)) rfl ⟨a0_, by decide, trivial⟩ ?_
            refine xEvG_br xml xfetch (fun c_ => ?_) (fun c_ => ?_)
            · have h := xif_t c_ h
              refine xEvG_n xml xfetch 4 (y := (169, 43, [some (13, x0), some (0, x1), some (0, x2), some (0, x5), some (0, x4), some (0, (xw32 (x5 + 1)))], [], M)) rfl trivial ?_
              refine xEvG_mask xml xfetch [true, true, true, true, true, true] ?_
              exact (hQ_best_L43 k_32 hk_32 g) x0 x1 x2 x5 x4 (xw32 (x5 + 1)) M _ h
            · have h := xif_f c_ h
              refine xEvG_n xml xfetch 2 (y := (169, 43, [some (13, x0), some (0, x1), some (0, x2), some (0, x3), some (0, x4), some (0, (xw32 (x5 + 1)))], [], M)) rfl trivial ?_
              refine xEvG_mask xml xfetch [true, true, true, true, true, true] ?_
              exact (hQ_best_L43 k_32 hk_32 g) x0 x1 x2 x3 x4 (xw32 (x5 + 1)) M _ h
        · have h := xif_f c_ h
          refine xEvG_n xml xfetch 3 (y := (169, if x3 = (-1) then 138 else 142, [some (13, x0), some (0, x1), some (0, x2), some (0, x3), some (0, x4), some (0, x5)], [], M)) rfl trivial ?_
          refine xEvG_br xml xfetch (fun c_ => ?_) (fun c_ => ?_)
          · have h := xif_t c_ h
            refine xEvG_n xml xfetch 5 (y := (169, 32, [some (13, x0), some (0, x1), some (0, x2), some (0, x3), some (0, (xw32 (x4 + 1))), some (0, x5)], [], M)) rfl trivial ?_
            refine xEvG_mask xml xfetch [true, true, true, true, true, false] ?_
            exact hk_32 x0 x1 x2 x3 (xw32 (x4 + 1)) M _ h
          · have h := xif_f c_ h
            refine xEvG_n xml xfetch 8 (y := (169, 32, [some (13, x0), some (0, x1), some (0, (xor32 x2 (xshl 1 x3))), some (0, x3), some (0, (xw32 (x4 + 1))), some (0, x5)], [], M)) rfl trivial ?_
            refine xEvG_mask xml xfetch [true, true, true, true, true, false] ?_
            exact hk_32 x0 x1 (xor32 x2 (xshl 1 x3)) x3 (xw32 (x4 + 1)) M _ h
      · have h := xif_f c_ h
        refine xEvG_n xml xfetch 3 (y := (169, if x3 = (-1) then 138 else 142, [some (13, x0), some (0, x1), some (0, x2), some (0, x3), some (0, x4), some (0, x5)], [], M)) rfl trivial ?_
        refine xEvG_br xml xfetch (fun c_ => ?_) (fun c_ => ?_)
        · have h := xif_t c_ h
          refine xEvG_n xml xfetch 5 (y := (169, 32, [some (13, x0), some (0, x1), some (0, x2), some (0, x3), some (0, (xw32 (x4 + 1))), some (0, x5)], [], M)) rfl trivial ?_
          refine xEvG_mask xml xfetch [true, true, true, true, true, false] ?_
          exact hk_32 x0 x1 x2 x3 (xw32 (x4 + 1)) M _ h
        · have h := xif_f c_ h
          refine xEvG_n xml xfetch 8 (y := (169, 32, [some (13, x0), some (0, x1), some (0, (xor32 x2 (xshl 1 x3))), some (0, x3), some (0, (xw32 (x4 + 1))), some (0, x5)], [], M)) rfl trivial ?_
          refine xEvG_mask xml xfetch [true, true, true, true, true, false] ?_
          exact hk_32 x0 x1 (xor32 x2 (xshl 1 x3)) x3 (xw32 (x4 + 1)) M _ h
    · have h := xif_f c_ h
      refine xEvG_n xml xfetch 3 (y := (169, if x3 = (-1) then 138 else 142, [some (13, x0), some (0, x1), some (0, x2), some (0, x3), some (0, x4), some (0, x5)], [], M)) rfl trivial ?_
      refine xEvG_br xml xfetch (fun c_ => ?_) (fun c_ => ?_)
      · have h := xif_t c_ h
        refine xEvG_n xml xfetch 5 (y := (169, 32, [some (13, x0), some (0, x1), some (0, x2), some (0, x3), some (0, (xw32 (x4 + 1))), some (0, x5)], [], M)) rfl trivial ?_
        refine xEvG_mask xml xfetch [true, true, true, true, true, false] ?_
        exact hk_32 x0 x1 x2 x3 (xw32 (x4 + 1)) M _ h
      · have h := xif_f c_ h
        refine xEvG_n xml xfetch 8 (y := (169, 32, [some (13, x0), some (0, x1), some (0, (xor32 x2 (xshl 1 x3))), some (0, x3), some (0, (xw32 (x4 + 1))), some (0, x5)], [], M)) rfl trivial ?_
        refine xEvG_mask xml xfetch [true, true, true, true, true, false] ?_
        exact hk_32 x0 x1 (xor32 x2 (xshl 1 x3)) x3 (xw32 (x4 + 1)) M _ h
def fQ_best_L32 : Nat → Int → Int → Int → Int → Int → xM → Option (Int × xM)
  | 0, _, _, _, _, _, _ => none
  | g + 1, x0, x1, x2, x3, x4, M => if x1 < x4 then (some (x3, M)) else (fQ_best_L43 (fQ_best_L32 g) 20001 x0 x1 x2 (-1) x4 0 M)
theorem hQ_best_L32 : ∀ (g : Nat) (x0 x1 x2 x3 x4 : Int) (M : xM) (r : Int × xM) (h : fQ_best_L32 g x0 x1 x2 x3 x4 M = some r), xEv (169, 32, [some (13, x0), some (0, x1), some (0, x2), some (0, x3), some (0, x4), none], [], M) (some (0, r.1), r.2)
  | 0, _, _, _, _, _, _, _, h => by cases h
  | g + 1, x0, x1, x2, x3, x4, M, r, h => by
    unfold fQ_best_L32 at h
    refine xEvG_n xml xfetch 3 (y := (169, if x1 < x4 then 154 else 38, [some (13, x0), some (0, x1), some (0, x2), some (0, x3), some (0, x4), none], [], M)) rfl trivial ?_
    refine xEvG_br xml xfetch (fun c_ => ?_) (fun c_ => ?_)
    · have h := xif_t c_ h
      refine xEvG_n xml xfetch 1 (y := (169, 155, [some (13, x0), some (0, x1), some (0, x2), some (0, x3), some (0, x4), none], [(0, x3)], M)) rfl trivial ?_
      cases h
      exact xEvG_ret xml xfetch rfl
    · have h := xif_f c_ h
      refine xEvG_n xml xfetch 4 (y := (169, 43, [some (13, x0), some (0, x1), some (0, x2), some (0, (-1)), some (0, x4), some (0, 0)], [], M)) rfl trivial ?_
      refine xEvG_mask xml xfetch [true, true, true, true, true, true] ?_
      exact hQ_best_L43 (fQ_best_L32 g) (hQ_best_L32 g) 20001 x0 x1 x2 (-1) x4 0 M _ h
/-- ConsentDoorsModel.best(I)I -/
def fQ_best (a0 a1 : Int) (M : xM) : Option (Int × xM) := if (fQ_isHour a0 a1 (xwr M a0 0 0)) = 0 then (some ((-2), (xwr M a0 0 0))) else (xB (fQ_lays a0 (xwr M a0 0 0)) (fun m2 => xB (fQ_laysFinals a0 m2) (fun m3 => fQ_best_L32 20001 a0 a1 0 (-1) 0 m3)))
theorem hQ_best (a0 a1 : Int) (M : xM) (r : Int × xM) (h : fQ_best a0 a1 M = some r) : xEv (169, 0, [some (13, a0), some (0, a1), none, none, none, none], [], M) (some (0, r.1), r.2) := by
  unfold fQ_best at h
  refine xEvG_n xml xfetch 6 (y := (169, 8, [some (13, a0), some (0, a1), none, none, none, none], [(1, a1), (13, a0)], (xwr M a0 0 0))) rfl trivial ?_
  refine xEvG_call xml xfetch (q := (some (0, fQ_isHour a0 a1 (xwr M a0 0 0)), (xwr M a0 0 0))) rfl (hQ_isHour a0 a1 (xwr M a0 0 0) _ rfl) ?_
  show xEv (169, 11, [some (13, a0), some (0, a1), none, none, none, none], [(0, (fQ_isHour a0 a1 (xwr M a0 0 0)))], (xwr M a0 0 0)) _
  refine xEvG_n xml xfetch 1 (y := (169, if (fQ_isHour a0 a1 (xwr M a0 0 0)) = 0 then 14 else 17, [some (13, a0), some (0, a1), none, none, none, none], [], (xwr M a0 0 0))) rfl trivial ?_
  refine xEvG_br xml xfetch (fun c_ => ?_) (fun c_ => ?_)
  · have h := xif_t c_ h
    refine xEvG_n xml xfetch 1 (y := (169, 16, [some (13, a0), some (0, a1), none, none, none, none], [(0, (-2))], (xwr M a0 0 0))) rfl trivial ?_
    cases h
    exact xEvG_ret xml xfetch rfl
  · have h := xif_f c_ h
    refine xEvG_n xml xfetch 1 (y := (169, 18, [some (13, a0), some (0, a1), none, none, none, none], [(13, a0)], (xwr M a0 0 0))) rfl trivial ?_
    obtain ⟨m2, e_, h⟩ := xB_t h
    refine xEvG_call xml xfetch (q := (none, m2)) rfl (hQ_lays a0 (xwr M a0 0 0) _ e_) ?_
    show xEv (169, 21, [some (13, a0), some (0, a1), none, none, none, none], [], m2) _
    refine xEvG_n xml xfetch 1 (y := (169, 22, [some (13, a0), some (0, a1), none, none, none, none], [(13, a0)], m2)) rfl trivial ?_
    obtain ⟨m3, e_, h⟩ := xB_t h
    refine xEvG_call xml xfetch (q := (none, m3)) rfl (hQ_laysFinals a0 m2 _ e_) ?_
    show xEv (169, 25, [some (13, a0), some (0, a1), none, none, none, none], [], m3) _
    refine xEvG_n xml xfetch 6 (y := (169, 32, [some (13, a0), some (0, a1), some (0, 0), some (0, (-1)), some (0, 0), none], [], m3)) rfl trivial ?_
    refine xEvG_mask xml xfetch [true, true, true, true, true, false] ?_
    exact hQ_best_L32 20001 a0 a1 0 (-1) 0 m3 _ h

def fQ_soonest_L34 : Nat → Int → Int → Int → xM → Option (Int × xM)
  | 0, _, _, _, _ => none
  | g + 1, x0, x1, x2, M => if x2 < (M (x0 + 7) 1) then (xB (fQ_mostAhead x0 (xw32 (x2 + 1)) M) (fun v4 => if v4 < x1 then ((fQ_soonest_L34 g) x0 x1 (xw32 (x2 + 1)) M) else (some (x2, M)))) else (some ((-1), M))
theorem hQ_soonest_L34 : ∀ (g : Nat) (x0 x1 x2 : Int) (M : xM) (r : Int × xM) (h : fQ_soonest_L34 g x0 x1 x2 M = some r), xEv (170, 34, [some (13, x0), some (0, x1), some (0, x2)], [], M) (some (0, r.1), r.2)
  | 0, _, _, _, _, _, h => by cases h
  | g + 1, x0, x1, x2, M, r, h => by
    unfold fQ_soonest_L34 at h
    refine xEvG_n xml xfetch 6 (y := (170, if x2 < (M (x0 + 7) 1) then 44 else 63, [some (13, x0), some (0, x1), some (0, x2)], [], M)) rfl ⟨by decide, trivial⟩ ?_
    refine xEvG_br xml xfetch (fun c_ => ?_) (fun c_ => ?_)
    · have h := xif_t c_ h
      refine xEvG_n xml xfetch 4 (y := (170, 48, [some (13, x0), some (0, x1), some (0, x2)], [(0, (xw32 (x2 + 1))), (13, x0)], M)) rfl trivial ?_
      obtain ⟨v4, e_, h⟩ := xB_t h
      refine xEvG_call xml xfetch (q := (some (0, v4), M)) rfl (hQ_mostAhead x0 (xw32 (x2 + 1)) M _ e_) ?_
      show xEv (170, 51, [some (13, x0), some (0, x1), some (0, x2)], [(0, v4)], M) _
      refine xEvG_n xml xfetch 2 (y := (170, if v4 < x1 then 57 else 55, [some (13, x0), some (0, x1), some (0, x2)], [], M)) rfl trivial ?_
      refine xEvG_br xml xfetch (fun c_ => ?_) (fun c_ => ?_)
      · have h := xif_t c_ h
        refine xEvG_n xml xfetch 2 (y := (170, 34, [some (13, x0), some (0, x1), some (0, (xw32 (x2 + 1)))], [], M)) rfl trivial ?_
        refine xEvG_mask xml xfetch [true, true, true] ?_
        exact (hQ_soonest_L34 g) x0 x1 (xw32 (x2 + 1)) M _ h
      · have h := xif_f c_ h
        refine xEvG_n xml xfetch 1 (y := (170, 56, [some (13, x0), some (0, x1), some (0, x2)], [(0, x2)], M)) rfl trivial ?_
        cases h
        exact xEvG_ret xml xfetch rfl
    · have h := xif_f c_ h
      refine xEvG_n xml xfetch 1 (y := (170, 64, [some (13, x0), some (0, x1), some (0, x2)], [(0, (-1))], M)) rfl trivial ?_
      cases h
      exact xEvG_ret xml xfetch rfl
/-- ConsentDoorsModel.soonest(I)I -/
def fQ_soonest (a0 a1 : Int) (M : xM) : Option (Int × xM) := if (fQ_isPrison a0 (xwr M a0 0 0)) = 0 then (some ((-2), (xwr M a0 0 0))) else (if (fQ_in a1 1 9 (xwr M a0 0 0)) = 0 then (some ((-2), (xwr M a0 0 0))) else (xB (fQ_mostPlain a0 (xwr M a0 0 0)) (fun q_ => match q_ with | (v3, m3) => fQ_soonest_L34 20001 a0 a1 0 m3)))
theorem hQ_soonest (a0 a1 : Int) (M : xM) (r : Int × xM) (h : fQ_soonest a0 a1 M = some r) : xEv (170, 0, [some (13, a0), some (0, a1), none], [], M) (some (0, r.1), r.2) := by
  unfold fQ_soonest at h
  refine xEvG_n xml xfetch 4 (y := (170, 6, [some (13, a0), some (0, a1), none], [(13, a0)], (xwr M a0 0 0))) rfl trivial ?_
  refine xEvG_call xml xfetch (q := (some (0, fQ_isPrison a0 (xwr M a0 0 0)), (xwr M a0 0 0))) rfl (hQ_isPrison a0 (xwr M a0 0 0) _ rfl) ?_
  show xEv (170, 9, [some (13, a0), some (0, a1), none], [(0, (fQ_isPrison a0 (xwr M a0 0 0)))], (xwr M a0 0 0)) _
  refine xEvG_n xml xfetch 1 (y := (170, if (fQ_isPrison a0 (xwr M a0 0 0)) = 0 then 24 else 12, [some (13, a0), some (0, a1), none], [], (xwr M a0 0 0))) rfl trivial ?_
  refine xEvG_br xml xfetch (fun c_ => ?_) (fun c_ => ?_)
  · have h := xif_t c_ h
    refine xEvG_n xml xfetch 1 (y := (170, 26, [some (13, a0), some (0, a1), none], [(0, (-2))], (xwr M a0 0 0))) rfl trivial ?_
    cases h
    exact xEvG_ret xml xfetch rfl
  · have h := xif_f c_ h
    refine xEvG_n xml xfetch 4 (y := (170, 18, [some (13, a0), some (0, a1), none], [(1, 9), (1, 1), (1, a1)], (xwr M a0 0 0))) rfl trivial ?_
    refine xEvG_call xml xfetch (q := (some (0, fQ_in a1 1 9 (xwr M a0 0 0)), (xwr M a0 0 0))) rfl (hQ_in a1 1 9 (xwr M a0 0 0) _ rfl) ?_
    show xEv (170, 21, [some (13, a0), some (0, a1), none], [(0, (fQ_in a1 1 9 (xwr M a0 0 0)))], (xwr M a0 0 0)) _
    refine xEvG_n xml xfetch 1 (y := (170, if (fQ_in a1 1 9 (xwr M a0 0 0)) = 0 then 24 else 27, [some (13, a0), some (0, a1), none], [], (xwr M a0 0 0))) rfl trivial ?_
    refine xEvG_br xml xfetch (fun c_ => ?_) (fun c_ => ?_)
    · have h := xif_t c_ h
      refine xEvG_n xml xfetch 1 (y := (170, 26, [some (13, a0), some (0, a1), none], [(0, (-2))], (xwr M a0 0 0))) rfl trivial ?_
      cases h
      exact xEvG_ret xml xfetch rfl
    · have h := xif_f c_ h
      refine xEvG_n xml xfetch 1 (y := (170, 28, [some (13, a0), some (0, a1), none], [(13, a0)], (xwr M a0 0 0))) rfl trivial ?_
      obtain ⟨⟨v3, m3⟩, e_, h⟩ := xB_t h
      refine xEvG_call xml xfetch (q := (some (0, v3), m3)) rfl (hQ_mostPlain a0 (xwr M a0 0 0) _ e_) ?_
      show xEv (170, 31, [some (13, a0), some (0, a1), none], [(0, v3)], m3) _
      refine xEvG_n xml xfetch 3 (y := (170, 34, [some (13, a0), some (0, a1), some (0, 0)], [], m3)) rfl trivial ?_
      refine xEvG_mask xml xfetch [true, true, true] ?_
      exact hQ_soonest_L34 20001 a0 a1 0 m3 _ h

def fQ_sets1_L26 : Nat → Int → Int → Int → Int → xM → Option (Int × xM)
  | 0, _, _, _, _, _ => none
  | g + 1, x0, x1, x2, x3, M => if x3 < (xshl 1 (M (x0 + 7) 0)) then (xA (0 ≤ (xw32 ((xw32 (512 * (xw32 (x1 + 1)))) + x3)) ∧ (xw32 ((xw32 (512 * (xw32 (x1 + 1)))) + x3)) < 12800) (if (M (x0 + 17) (xw32 ((xw32 (512 * (xw32 (x1 + 1)))) + x3))) = 0 then ((fQ_sets1_L26 g) x0 x1 (xw32 (x2 + 0)) (xw32 (x3 + 1)) M) else ((fQ_sets1_L26 g) x0 x1 (xw32 (x2 + 1)) (xw32 (x3 + 1)) M))) else (some (x2, M))
theorem hQ_sets1_L26 : ∀ (g : Nat) (x0 x1 x2 x3 : Int) (M : xM) (r : Int × xM) (h : fQ_sets1_L26 g x0 x1 x2 x3 M = some r), xEv (171, 26, [some (13, x0), some (0, x1), some (0, x2), some (0, x3)], [], M) (some (0, r.1), r.2)
  | 0, _, _, _, _, _, _, h => by cases h
  | g + 1, x0, x1, x2, x3, M, r, h => by
    unfold fQ_sets1_L26 at h
    refine xEvG_n xml xfetch 8 (y := (171, if x3 < (xshl 1 (M (x0 + 7) 0)) then 38 else 69, [some (13, x0), some (0, x1), some (0, x2), some (0, x3)], [], M)) rfl ⟨by decide, trivial⟩ ?_
    refine xEvG_br xml xfetch (fun c_ => ?_) (fun c_ => ?_)
    · have h := xif_t c_ h
      have a0_ := (xA_t h).1
      have h := (xA_t h).2
      refine xEvG_n xml xfetch 12 (y := (171, if (M (x0 + 17) (xw32 ((xw32 (512 * (xw32 (x1 + 1)))) + x3))) = 0 then 60 else 56, [some (13, x0), some (0, x1), some (0, x2), some (0, x3)], [(0, x2)], M)) rfl ⟨a0_, trivial⟩ ?_
      refine xEvG_br xml xfetch (fun c_ => ?_) (fun c_ => ?_)
      · have h := xif_t c_ h
        refine xEvG_n xml xfetch 5 (y := (171, 26, [some (13, x0), some (0, x1), some (0, (xw32 (x2 + 0))), some (0, (xw32 (x3 + 1)))], [], M)) rfl trivial ?_
        refine xEvG_mask xml xfetch [true, true, true, true] ?_
        exact (hQ_sets1_L26 g) x0 x1 (xw32 (x2 + 0)) (xw32 (x3 + 1)) M _ h
      · have h := xif_f c_ h
        refine xEvG_n xml xfetch 6 (y := (171, 26, [some (13, x0), some (0, x1), some (0, (xw32 (x2 + 1))), some (0, (xw32 (x3 + 1)))], [], M)) rfl trivial ?_
        refine xEvG_mask xml xfetch [true, true, true, true] ?_
        exact (hQ_sets1_L26 g) x0 x1 (xw32 (x2 + 1)) (xw32 (x3 + 1)) M _ h
    · have h := xif_f c_ h
      refine xEvG_n xml xfetch 1 (y := (171, 70, [some (13, x0), some (0, x1), some (0, x2), some (0, x3)], [(0, x2)], M)) rfl trivial ?_
      cases h
      exact xEvG_ret xml xfetch rfl
/-- ConsentDoorsModel.sets(I)I -/
def fQ_sets1 (a0 a1 : Int) (M : xM) : Option (Int × xM) := if (fQ_isHour a0 a1 (xwr M a0 0 0)) = 0 then (some ((-2), (xwr M a0 0 0))) else (xB (fQ_mostPlain a0 (xwr M a0 0 0)) (fun q_ => match q_ with | (v2, m2) => fQ_sets1_L26 20001 a0 a1 0 0 m2))
theorem hQ_sets1 (a0 a1 : Int) (M : xM) (r : Int × xM) (h : fQ_sets1 a0 a1 M = some r) : xEv (171, 0, [some (13, a0), some (0, a1), none, none], [], M) (some (0, r.1), r.2) := by
  unfold fQ_sets1 at h
  refine xEvG_n xml xfetch 6 (y := (171, 8, [some (13, a0), some (0, a1), none, none], [(1, a1), (13, a0)], (xwr M a0 0 0))) rfl trivial ?_
  refine xEvG_call xml xfetch (q := (some (0, fQ_isHour a0 a1 (xwr M a0 0 0)), (xwr M a0 0 0))) rfl (hQ_isHour a0 a1 (xwr M a0 0 0) _ rfl) ?_
  show xEv (171, 11, [some (13, a0), some (0, a1), none, none], [(0, (fQ_isHour a0 a1 (xwr M a0 0 0)))], (xwr M a0 0 0)) _
  refine xEvG_n xml xfetch 1 (y := (171, if (fQ_isHour a0 a1 (xwr M a0 0 0)) = 0 then 14 else 17, [some (13, a0), some (0, a1), none, none], [], (xwr M a0 0 0))) rfl trivial ?_
  refine xEvG_br xml xfetch (fun c_ => ?_) (fun c_ => ?_)
  · have h := xif_t c_ h
    refine xEvG_n xml xfetch 1 (y := (171, 16, [some (13, a0), some (0, a1), none, none], [(0, (-2))], (xwr M a0 0 0))) rfl trivial ?_
    cases h
    exact xEvG_ret xml xfetch rfl
  · have h := xif_f c_ h
    refine xEvG_n xml xfetch 1 (y := (171, 18, [some (13, a0), some (0, a1), none, none], [(13, a0)], (xwr M a0 0 0))) rfl trivial ?_
    obtain ⟨⟨v2, m2⟩, e_, h⟩ := xB_t h
    refine xEvG_call xml xfetch (q := (some (0, v2), m2)) rfl (hQ_mostPlain a0 (xwr M a0 0 0) _ e_) ?_
    show xEv (171, 21, [some (13, a0), some (0, a1), none, none], [(0, v2)], m2) _
    refine xEvG_n xml xfetch 5 (y := (171, 26, [some (13, a0), some (0, a1), some (0, 0), some (0, 0)], [], m2)) rfl trivial ?_
    refine xEvG_mask xml xfetch [true, true, true, true] ?_
    exact hQ_sets1_L26 20001 a0 a1 0 0 m2 _ h

def fQ_holds_L2 : Nat → Int → Int → Int → Int → xM → Option Int
  | 0, _, _, _, _, _ => none
  | g + 1, x0, x1, x2, x3, M => if x3 < (xshl 1 (M (x0 + 7) 0)) then (xA (0 ≤ (xw32 ((xw32 (512 * x1)) + x3)) ∧ (xw32 ((xw32 (512 * x1)) + x3)) < 12800) (if (M (x0 + 17) (xw32 ((xw32 (512 * x1)) + x3))) = 0 then ((fQ_holds_L2 g) x0 x1 x2 (xw32 (x3 + 1)) M) else (if (xand x2 (xxor x3 (-1))) = 0 then (some 1) else ((fQ_holds_L2 g) x0 x1 x2 (xw32 (x3 + 1)) M)))) else (some 0)
theorem hQ_holds_L2 : ∀ (g : Nat) (x0 x1 x2 x3 : Int) (M : xM) (r : Int) (h : fQ_holds_L2 g x0 x1 x2 x3 M = some r), xEv (172, 2, [some (13, x0), some (0, x1), some (0, x2), some (0, x3)], [], M) (some (0, r), M)
  | 0, _, _, _, _, _, _, h => by cases h
  | g + 1, x0, x1, x2, x3, M, r, h => by
    unfold fQ_holds_L2 at h
    refine xEvG_n xml xfetch 8 (y := (172, if x3 < (xshl 1 (M (x0 + 7) 0)) then 14 else 45, [some (13, x0), some (0, x1), some (0, x2), some (0, x3)], [], M)) rfl ⟨by decide, trivial⟩ ?_
    refine xEvG_br xml xfetch (fun c_ => ?_) (fun c_ => ?_)
    · have h := xif_t c_ h
      have a0_ := (xA_t h).1
      have h := (xA_t h).2
      refine xEvG_n xml xfetch 9 (y := (172, if (M (x0 + 17) (xw32 ((xw32 (512 * x1)) + x3))) = 0 then 39 else 29, [some (13, x0), some (0, x1), some (0, x2), some (0, x3)], [], M)) rfl ⟨a0_, trivial⟩ ?_
      refine xEvG_br xml xfetch (fun c_ => ?_) (fun c_ => ?_)
      · have h := xif_t c_ h
        refine xEvG_n xml xfetch 2 (y := (172, 2, [some (13, x0), some (0, x1), some (0, x2), some (0, (xw32 (x3 + 1)))], [], M)) rfl trivial ?_
        refine xEvG_mask xml xfetch [true, true, true, true] ?_
        exact (hQ_holds_L2 g) x0 x1 x2 (xw32 (x3 + 1)) M _ h
      · have h := xif_f c_ h
        refine xEvG_n xml xfetch 6 (y := (172, if (xand x2 (xxor x3 (-1))) = 0 then 37 else 39, [some (13, x0), some (0, x1), some (0, x2), some (0, x3)], [], M)) rfl trivial ?_
        refine xEvG_br xml xfetch (fun c_ => ?_) (fun c_ => ?_)
        · have h := xif_t c_ h
          refine xEvG_n xml xfetch 1 (y := (172, 38, [some (13, x0), some (0, x1), some (0, x2), some (0, x3)], [(0, 1)], M)) rfl trivial ?_
          cases h
          exact xEvG_retc xml xfetch rfl (Or.inr rfl)
        · have h := xif_f c_ h
          refine xEvG_n xml xfetch 2 (y := (172, 2, [some (13, x0), some (0, x1), some (0, x2), some (0, (xw32 (x3 + 1)))], [], M)) rfl trivial ?_
          refine xEvG_mask xml xfetch [true, true, true, true] ?_
          exact (hQ_holds_L2 g) x0 x1 x2 (xw32 (x3 + 1)) M _ h
    · have h := xif_f c_ h
      refine xEvG_n xml xfetch 1 (y := (172, 46, [some (13, x0), some (0, x1), some (0, x2), some (0, x3)], [(0, 0)], M)) rfl trivial ?_
      cases h
      exact xEvG_retc xml xfetch rfl (Or.inl rfl)
/-- ConsentDoorsModel.holds(II)Z -/
def fQ_holds (a0 a1 a2 : Int) (M : xM) : Option Int := fQ_holds_L2 20001 a0 a1 a2 0 M
theorem hQ_holds (a0 a1 a2 : Int) (M : xM) (r : Int) (h : fQ_holds a0 a1 a2 M = some r) : xEv (172, 0, [some (13, a0), some (0, a1), some (0, a2), none], [], M) (some (0, r), M) := by
  unfold fQ_holds at h
  refine xEvG_n xml xfetch 2 (y := (172, 2, [some (13, a0), some (0, a1), some (0, a2), some (0, 0)], [], M)) rfl trivial ?_
  refine xEvG_mask xml xfetch [true, true, true, true] ?_
  exact hQ_holds_L2 20001 a0 a1 a2 0 M _ h

def fQ_together_L42 : Nat → Int → Int → Int → xM → Option (Int × xM)
  | 0, _, _, _, _ => none
  | g + 1, x0, x1, x2, M => if x2 < (M (x0 + 7) 1) then (xB (fQ_holds x0 (xw32 (x2 + 1)) x1 M) (fun v4 => if v4 = 0 then ((fQ_together_L42 g) x0 x1 (xw32 (x2 + 1)) M) else (some (x2, M)))) else (some ((-1), M))
theorem hQ_together_L42 : ∀ (g : Nat) (x0 x1 x2 : Int) (M : xM) (r : Int × xM) (h : fQ_together_L42 g x0 x1 x2 M = some r), xEv (173, 42, [some (13, x0), some (0, x1), some (0, x2)], [], M) (some (0, r.1), r.2)
  | 0, _, _, _, _, _, h => by cases h
  | g + 1, x0, x1, x2, M, r, h => by
    unfold fQ_together_L42 at h
    refine xEvG_n xml xfetch 6 (y := (173, if x2 < (M (x0 + 7) 1) then 52 else 71, [some (13, x0), some (0, x1), some (0, x2)], [], M)) rfl ⟨by decide, trivial⟩ ?_
    refine xEvG_br xml xfetch (fun c_ => ?_) (fun c_ => ?_)
    · have h := xif_t c_ h
      refine xEvG_n xml xfetch 5 (y := (173, 57, [some (13, x0), some (0, x1), some (0, x2)], [(0, x1), (0, (xw32 (x2 + 1))), (13, x0)], M)) rfl trivial ?_
      obtain ⟨v4, e_, h⟩ := xB_t h
      refine xEvG_call xml xfetch (q := (some (0, v4), M)) rfl (hQ_holds x0 (xw32 (x2 + 1)) x1 M _ e_) ?_
      show xEv (173, 60, [some (13, x0), some (0, x1), some (0, x2)], [(0, v4)], M) _
      refine xEvG_n xml xfetch 1 (y := (173, if v4 = 0 then 65 else 63, [some (13, x0), some (0, x1), some (0, x2)], [], M)) rfl trivial ?_
      refine xEvG_br xml xfetch (fun c_ => ?_) (fun c_ => ?_)
      · have h := xif_t c_ h
        refine xEvG_n xml xfetch 2 (y := (173, 42, [some (13, x0), some (0, x1), some (0, (xw32 (x2 + 1)))], [], M)) rfl trivial ?_
        refine xEvG_mask xml xfetch [true, true, true] ?_
        exact (hQ_together_L42 g) x0 x1 (xw32 (x2 + 1)) M _ h
      · have h := xif_f c_ h
        refine xEvG_n xml xfetch 1 (y := (173, 64, [some (13, x0), some (0, x1), some (0, x2)], [(0, x2)], M)) rfl trivial ?_
        cases h
        exact xEvG_ret xml xfetch rfl
    · have h := xif_f c_ h
      refine xEvG_n xml xfetch 1 (y := (173, 72, [some (13, x0), some (0, x1), some (0, x2)], [(0, (-1))], M)) rfl trivial ?_
      cases h
      exact xEvG_ret xml xfetch rfl
/-- ConsentDoorsModel.together(I)I -/
def fQ_together (a0 a1 : Int) (M : xM) : Option (Int × xM) := if (fQ_isPrison a0 (xwr M a0 0 0)) = 0 then (some ((-2), (xwr M a0 0 0))) else (if (fQ_in a1 0 (xw32 ((xshl 1 ((xwr M a0 0 0) (a0 + 7) 0)) - 1)) (xwr M a0 0 0)) = 0 then (some ((-2), (xwr M a0 0 0))) else (xB (fQ_mostPlain a0 (xwr M a0 0 0)) (fun q_ => match q_ with | (v3, m3) => fQ_together_L42 20001 a0 a1 0 m3)))
theorem hQ_together (a0 a1 : Int) (M : xM) (r : Int × xM) (h : fQ_together a0 a1 M = some r) : xEv (173, 0, [some (13, a0), some (0, a1), none], [], M) (some (0, r.1), r.2) := by
  unfold fQ_together at h
  refine xEvG_n xml xfetch 4 (y := (173, 6, [some (13, a0), some (0, a1), none], [(13, a0)], (xwr M a0 0 0))) rfl trivial ?_
  refine xEvG_call xml xfetch (q := (some (0, fQ_isPrison a0 (xwr M a0 0 0)), (xwr M a0 0 0))) rfl (hQ_isPrison a0 (xwr M a0 0 0) _ rfl) ?_
  show xEv (173, 9, [some (13, a0), some (0, a1), none], [(0, (fQ_isPrison a0 (xwr M a0 0 0)))], (xwr M a0 0 0)) _
  refine xEvG_n xml xfetch 1 (y := (173, if (fQ_isPrison a0 (xwr M a0 0 0)) = 0 then 32 else 12, [some (13, a0), some (0, a1), none], [], (xwr M a0 0 0))) rfl trivial ?_
  refine xEvG_br xml xfetch (fun c_ => ?_) (fun c_ => ?_)
  · have h := xif_t c_ h
    refine xEvG_n xml xfetch 1 (y := (173, 34, [some (13, a0), some (0, a1), none], [(0, (-2))], (xwr M a0 0 0))) rfl trivial ?_
    cases h
    exact xEvG_ret xml xfetch rfl
  · have h := xif_f c_ h
    refine xEvG_n xml xfetch 12 (y := (173, 26, [some (13, a0), some (0, a1), none], [(1, (xw32 ((xshl 1 ((xwr M a0 0 0) (a0 + 7) 0)) - 1))), (1, 0), (1, a1)], (xwr M a0 0 0))) rfl ⟨by decide, trivial⟩ ?_
    refine xEvG_call xml xfetch (q := (some (0, fQ_in a1 0 (xw32 ((xshl 1 ((xwr M a0 0 0) (a0 + 7) 0)) - 1)) (xwr M a0 0 0)), (xwr M a0 0 0))) rfl (hQ_in a1 0 (xw32 ((xshl 1 ((xwr M a0 0 0) (a0 + 7) 0)) - 1)) (xwr M a0 0 0) _ rfl) ?_
    show xEv (173, 29, [some (13, a0), some (0, a1), none], [(0, (fQ_in a1 0 (xw32 ((xshl 1 ((xwr M a0 0 0) (a0 + 7) 0)) - 1)) (xwr M a0 0 0)))], (xwr M a0 0 0)) _
    refine xEvG_n xml xfetch 1 (y := (173, if (fQ_in a1 0 (xw32 ((xshl 1 ((xwr M a0 0 0) (a0 + 7) 0)) - 1)) (xwr M a0 0 0)) = 0 then 32 else 35, [some (13, a0), some (0, a1), none], [], (xwr M a0 0 0))) rfl trivial ?_
    refine xEvG_br xml xfetch (fun c_ => ?_) (fun c_ => ?_)
    · have h := xif_t c_ h
      refine xEvG_n xml xfetch 1 (y := (173, 34, [some (13, a0), some (0, a1), none], [(0, (-2))], (xwr M a0 0 0))) rfl trivial ?_
      cases h
      exact xEvG_ret xml xfetch rfl
    · have h := xif_f c_ h
      refine xEvG_n xml xfetch 1 (y := (173, 36, [some (13, a0), some (0, a1), none], [(13, a0)], (xwr M a0 0 0))) rfl trivial ?_
      obtain ⟨⟨v3, m3⟩, e_, h⟩ := xB_t h
      refine xEvG_call xml xfetch (q := (some (0, v3), m3)) rfl (hQ_mostPlain a0 (xwr M a0 0 0) _ e_) ?_
      show xEv (173, 39, [some (13, a0), some (0, a1), none], [(0, v3)], m3) _
      refine xEvG_n xml xfetch 3 (y := (173, 42, [some (13, a0), some (0, a1), some (0, 0)], [], m3)) rfl trivial ?_
      refine xEvG_mask xml xfetch [true, true, true] ?_
      exact hQ_together_L42 20001 a0 a1 0 m3 _ h

def fQ_locked_L24 : Nat → Int → Int → Int → xM → Option (Int × xM)
  | 0, _, _, _, _ => none
  | g + 1, x0, x1, x2, M => if x2 < (M (x0 + 7) 0) then (xB (fQ_holds x0 (M (x0 + 7) 1) (xshl 1 x2) M) (fun v3 => if v3 = 0 then ((fQ_locked_L24 g) x0 (xor32 x1 (xshl 1 x2)) (xw32 (x2 + 1)) M) else ((fQ_locked_L24 g) x0 (xor32 x1 0) (xw32 (x2 + 1)) M))) else (some (x1, M))
theorem hQ_locked_L24 : ∀ (g : Nat) (x0 x1 x2 : Int) (M : xM) (r : Int × xM) (h : fQ_locked_L24 g x0 x1 x2 M = some r), xEv (174, 24, [some (13, x0), some (0, x1), some (0, x2)], [], M) (some (0, r.1), r.2)
  | 0, _, _, _, _, _, h => by cases h
  | g + 1, x0, x1, x2, M, r, h => by
    unfold fQ_locked_L24 at h
    refine xEvG_n xml xfetch 6 (y := (174, if x2 < (M (x0 + 7) 0) then 34 else 66, [some (13, x0), some (0, x1), some (0, x2)], [], M)) rfl ⟨by decide, trivial⟩ ?_
    refine xEvG_br xml xfetch (fun c_ => ?_) (fun c_ => ?_)
    · have h := xif_t c_ h
      refine xEvG_n xml xfetch 9 (y := (174, 45, [some (13, x0), some (0, x1), some (0, x2)], [(0, (xshl 1 x2)), (0, (M (x0 + 7) 1)), (13, x0), (0, x1)], M)) rfl ⟨by decide, trivial⟩ ?_
      obtain ⟨v3, e_, h⟩ := xB_t h
      refine xEvG_call xml xfetch (q := (some (0, v3), M)) rfl (hQ_holds x0 (M (x0 + 7) 1) (xshl 1 x2) M _ e_) ?_
      show xEv (174, 48, [some (13, x0), some (0, x1), some (0, x2)], [(0, v3), (0, x1)], M) _
      refine xEvG_n xml xfetch 1 (y := (174, if v3 = 0 then 55 else 51, [some (13, x0), some (0, x1), some (0, x2)], [(0, x1)], M)) rfl trivial ?_
      refine xEvG_br xml xfetch (fun c_ => ?_) (fun c_ => ?_)
      · have h := xif_t c_ h
        refine xEvG_n xml xfetch 7 (y := (174, 24, [some (13, x0), some (0, (xor32 x1 (xshl 1 x2))), some (0, (xw32 (x2 + 1)))], [], M)) rfl trivial ?_
        refine xEvG_mask xml xfetch [true, true, true] ?_
        exact (hQ_locked_L24 g) x0 (xor32 x1 (xshl 1 x2)) (xw32 (x2 + 1)) M _ h
      · have h := xif_f c_ h
        refine xEvG_n xml xfetch 6 (y := (174, 24, [some (13, x0), some (0, (xor32 x1 0)), some (0, (xw32 (x2 + 1)))], [], M)) rfl trivial ?_
        refine xEvG_mask xml xfetch [true, true, true] ?_
        exact (hQ_locked_L24 g) x0 (xor32 x1 0) (xw32 (x2 + 1)) M _ h
    · have h := xif_f c_ h
      refine xEvG_n xml xfetch 1 (y := (174, 67, [some (13, x0), some (0, x1), some (0, x2)], [(0, x1)], M)) rfl trivial ?_
      cases h
      exact xEvG_ret xml xfetch rfl
/-- ConsentDoorsModel.locked()I -/
def fQ_locked (a0 : Int) (M : xM) : Option (Int × xM) := if (fQ_isPrison a0 (xwr M a0 0 0)) = 0 then (some ((-2), (xwr M a0 0 0))) else (xB (fQ_mostPlain a0 (xwr M a0 0 0)) (fun q_ => match q_ with | (v2, m2) => fQ_locked_L24 20001 a0 0 0 m2))
theorem hQ_locked (a0 : Int) (M : xM) (r : Int × xM) (h : fQ_locked a0 M = some r) : xEv (174, 0, [some (13, a0), none, none], [], M) (some (0, r.1), r.2) := by
  unfold fQ_locked at h
  refine xEvG_n xml xfetch 4 (y := (174, 6, [some (13, a0), none, none], [(13, a0)], (xwr M a0 0 0))) rfl trivial ?_
  refine xEvG_call xml xfetch (q := (some (0, fQ_isPrison a0 (xwr M a0 0 0)), (xwr M a0 0 0))) rfl (hQ_isPrison a0 (xwr M a0 0 0) _ rfl) ?_
  show xEv (174, 9, [some (13, a0), none, none], [(0, (fQ_isPrison a0 (xwr M a0 0 0)))], (xwr M a0 0 0)) _
  refine xEvG_n xml xfetch 1 (y := (174, if (fQ_isPrison a0 (xwr M a0 0 0)) = 0 then 12 else 15, [some (13, a0), none, none], [], (xwr M a0 0 0))) rfl trivial ?_
  refine xEvG_br xml xfetch (fun c_ => ?_) (fun c_ => ?_)
  · have h := xif_t c_ h
    refine xEvG_n xml xfetch 1 (y := (174, 14, [some (13, a0), none, none], [(0, (-2))], (xwr M a0 0 0))) rfl trivial ?_
    cases h
    exact xEvG_ret xml xfetch rfl
  · have h := xif_f c_ h
    refine xEvG_n xml xfetch 1 (y := (174, 16, [some (13, a0), none, none], [(13, a0)], (xwr M a0 0 0))) rfl trivial ?_
    obtain ⟨⟨v2, m2⟩, e_, h⟩ := xB_t h
    refine xEvG_call xml xfetch (q := (some (0, v2), m2)) rfl (hQ_mostPlain a0 (xwr M a0 0 0) _ e_) ?_
    show xEv (174, 19, [some (13, a0), none, none], [(0, v2)], m2) _
    refine xEvG_n xml xfetch 5 (y := (174, 24, [some (13, a0), some (0, 0), some (0, 0)], [], m2)) rfl trivial ?_
    refine xEvG_mask xml xfetch [true, true, true] ?_
    exact hQ_locked_L24 20001 a0 0 0 m2 _ h

def fQ_others_L26 : Nat → Int → Int → Int → Int → xM → Option (Int × xM)
  | 0, _, _, _, _, _ => none
  | g + 1, x0, x1, x2, x3, M => if x3 < (xshl 1 (M (x0 + 7) 0)) then (xA (0 ≤ (xw32 ((xw32 (512 * (M (x0 + 7) 1))) + x3)) ∧ (xw32 ((xw32 (512 * (M (x0 + 7) 1))) + x3)) < 12800) (if (M (x0 + 17) (xw32 ((xw32 (512 * (M (x0 + 7) 1))) + x3))) = 0 then ((fQ_others_L26 g) x0 x1 x2 (xw32 (x3 + 1)) M) else (if (fQ_isBit x3 x1 M) = 0 then ((fQ_others_L26 g) x0 x1 x2 (xw32 (x3 + 1)) M) else (xB (fQ_sizeOf x3 M) (fun v4 => if x2 < (xw32 (v4 - 1)) then (xB (fQ_sizeOf x3 M) (fun v5 => (fQ_others_L26 g) x0 x1 (xw32 (v5 - 1)) (xw32 (x3 + 1)) M)) else ((fQ_others_L26 g) x0 x1 x2 (xw32 (x3 + 1)) M)))))) else (some (x2, M))
theorem hQ_others_L26 : ∀ (g : Nat) (x0 x1 x2 x3 : Int) (M : xM) (r : Int × xM) (h : fQ_others_L26 g x0 x1 x2 x3 M = some r), xEv (175, 26, [some (13, x0), some (0, x1), some (0, x2), some (0, x3)], [], M) (some (0, r.1), r.2)
  | 0, _, _, _, _, _, _, h => by cases h
  | g + 1, x0, x1, x2, x3, M, r, h => by
    unfold fQ_others_L26 at h
    refine xEvG_n xml xfetch 8 (y := (175, if x3 < (xshl 1 (M (x0 + 7) 0)) then 38 else 89, [some (13, x0), some (0, x1), some (0, x2), some (0, x3)], [], M)) rfl ⟨by decide, trivial⟩ ?_
    refine xEvG_br xml xfetch (fun c_ => ?_) (fun c_ => ?_)
    · have h := xif_t c_ h
      have a1_ := (xA_t h).1
      have h := (xA_t h).2
      refine xEvG_n xml xfetch 12 (y := (175, if (M (x0 + 17) (xw32 ((xw32 (512 * (M (x0 + 7) 1))) + x3))) = 0 then 83 else 58, [some (13, x0), some (0, x1), some (0, x2), some (0, x3)], [], M)) rfl ⟨by decide, a1_, trivial⟩ ?_
      refine xEvG_br xml xfetch (fun c_ => ?_) (fun c_ => ?_)
      · have h := xif_t c_ h
        refine xEvG_n xml xfetch 2 (y := (175, 26, [some (13, x0), some (0, x1), some (0, x2), some (0, (xw32 (x3 + 1)))], [], M)) rfl trivial ?_
        refine xEvG_mask xml xfetch [true, true, true, true] ?_
        exact (hQ_others_L26 g) x0 x1 x2 (xw32 (x3 + 1)) M _ h
      · have h := xif_f c_ h
        refine xEvG_n xml xfetch 2 (y := (175, 60, [some (13, x0), some (0, x1), some (0, x2), some (0, x3)], [(0, x1), (0, x3)], M)) rfl trivial ?_
        refine xEvG_call xml xfetch (q := (some (0, fQ_isBit x3 x1 M), M)) rfl (hQ_isBit x3 x1 M _ rfl) ?_
        show xEv (175, 63, [some (13, x0), some (0, x1), some (0, x2), some (0, x3)], [(0, (fQ_isBit x3 x1 M))], M) _
        refine xEvG_n xml xfetch 1 (y := (175, if (fQ_isBit x3 x1 M) = 0 then 83 else 66, [some (13, x0), some (0, x1), some (0, x2), some (0, x3)], [], M)) rfl trivial ?_
        refine xEvG_br xml xfetch (fun c_ => ?_) (fun c_ => ?_)
        · have h := xif_t c_ h
          refine xEvG_n xml xfetch 2 (y := (175, 26, [some (13, x0), some (0, x1), some (0, x2), some (0, (xw32 (x3 + 1)))], [], M)) rfl trivial ?_
          refine xEvG_mask xml xfetch [true, true, true, true] ?_
          exact (hQ_others_L26 g) x0 x1 x2 (xw32 (x3 + 1)) M _ h
        · have h := xif_f c_ h
          refine xEvG_n xml xfetch 1 (y := (175, 67, [some (13, x0), some (0, x1), some (0, x2), some (0, x3)], [(0, x3)], M)) rfl trivial ?_
          obtain ⟨v4, e_, h⟩ := xB_t h
          refine xEvG_call xml xfetch (q := (some (0, v4), M)) rfl (hQ_sizeOf x3 M _ e_) ?_
          show xEv (175, 70, [some (13, x0), some (0, x1), some (0, x2), some (0, x3)], [(0, v4)], M) _
          refine xEvG_n xml xfetch 4 (y := (175, if x2 < (xw32 (v4 - 1)) then 76 else 83, [some (13, x0), some (0, x1), some (0, x2), some (0, x3)], [], M)) rfl trivial ?_
          refine xEvG_br xml xfetch (fun c_ => ?_) (fun c_ => ?_)
          · have h := xif_t c_ h
            refine xEvG_n xml xfetch 1 (y := (175, 77, [some (13, x0), some (0, x1), some (0, x2), some (0, x3)], [(0, x3)], M)) rfl trivial ?_
            obtain ⟨v5, e_, h⟩ := xB_t h
            refine xEvG_call xml xfetch (q := (some (0, v5), M)) rfl (hQ_sizeOf x3 M _ e_) ?_
            show xEv (175, 80, [some (13, x0), some (0, x1), some (0, x2), some (0, x3)], [(0, v5)], M) _
            refine xEvG_n xml xfetch 5 (y := (175, 26, [some (13, x0), some (0, x1), some (0, (xw32 (v5 - 1))), some (0, (xw32 (x3 + 1)))], [], M)) rfl trivial ?_
            refine xEvG_mask xml xfetch [true, true, true, true] ?_
            exact (hQ_others_L26 g) x0 x1 (xw32 (v5 - 1)) (xw32 (x3 + 1)) M _ h
          · have h := xif_f c_ h
            refine xEvG_n xml xfetch 2 (y := (175, 26, [some (13, x0), some (0, x1), some (0, x2), some (0, (xw32 (x3 + 1)))], [], M)) rfl trivial ?_
            refine xEvG_mask xml xfetch [true, true, true, true] ?_
            exact (hQ_others_L26 g) x0 x1 x2 (xw32 (x3 + 1)) M _ h
    · have h := xif_f c_ h
      refine xEvG_n xml xfetch 1 (y := (175, 90, [some (13, x0), some (0, x1), some (0, x2), some (0, x3)], [(0, x2)], M)) rfl trivial ?_
      cases h
      exact xEvG_ret xml xfetch rfl
/-- ConsentDoorsModel.others(I)I -/
def fQ_others (a0 a1 : Int) (M : xM) : Option (Int × xM) := if (fQ_isCell a0 a1 (xwr M a0 0 0)) = 0 then (some ((-2), (xwr M a0 0 0))) else (xB (fQ_mostPlain a0 (xwr M a0 0 0)) (fun q_ => match q_ with | (v2, m2) => fQ_others_L26 20001 a0 a1 (-1) 0 m2))
theorem hQ_others (a0 a1 : Int) (M : xM) (r : Int × xM) (h : fQ_others a0 a1 M = some r) : xEv (175, 0, [some (13, a0), some (0, a1), none, none], [], M) (some (0, r.1), r.2) := by
  unfold fQ_others at h
  refine xEvG_n xml xfetch 6 (y := (175, 8, [some (13, a0), some (0, a1), none, none], [(1, a1), (13, a0)], (xwr M a0 0 0))) rfl trivial ?_
  refine xEvG_call xml xfetch (q := (some (0, fQ_isCell a0 a1 (xwr M a0 0 0)), (xwr M a0 0 0))) rfl (hQ_isCell a0 a1 (xwr M a0 0 0) _ rfl) ?_
  show xEv (175, 11, [some (13, a0), some (0, a1), none, none], [(0, (fQ_isCell a0 a1 (xwr M a0 0 0)))], (xwr M a0 0 0)) _
  refine xEvG_n xml xfetch 1 (y := (175, if (fQ_isCell a0 a1 (xwr M a0 0 0)) = 0 then 14 else 17, [some (13, a0), some (0, a1), none, none], [], (xwr M a0 0 0))) rfl trivial ?_
  refine xEvG_br xml xfetch (fun c_ => ?_) (fun c_ => ?_)
  · have h := xif_t c_ h
    refine xEvG_n xml xfetch 1 (y := (175, 16, [some (13, a0), some (0, a1), none, none], [(0, (-2))], (xwr M a0 0 0))) rfl trivial ?_
    cases h
    exact xEvG_ret xml xfetch rfl
  · have h := xif_f c_ h
    refine xEvG_n xml xfetch 1 (y := (175, 18, [some (13, a0), some (0, a1), none, none], [(13, a0)], (xwr M a0 0 0))) rfl trivial ?_
    obtain ⟨⟨v2, m2⟩, e_, h⟩ := xB_t h
    refine xEvG_call xml xfetch (q := (some (0, v2), m2)) rfl (hQ_mostPlain a0 (xwr M a0 0 0) _ e_) ?_
    show xEv (175, 21, [some (13, a0), some (0, a1), none, none], [(0, v2)], m2) _
    refine xEvG_n xml xfetch 5 (y := (175, 26, [some (13, a0), some (0, a1), some (0, (-1)), some (0, 0)], [], m2)) rfl trivial ?_
    refine xEvG_mask xml xfetch [true, true, true, true] ?_
    exact hQ_others_L26 20001 a0 a1 (-1) 0 m2 _ h

def fQ_opensSome_L2 : Nat → Int → Int → Int → Int → xM → Option Int
  | 0, _, _, _, _, _ => none
  | g + 1, x0, x1, x2, x3, M => if x3 < (xshl 1 (M (x0 + 7) 0)) then (xA (0 ≤ (xw32 ((xw32 (512 * x2)) + x3)) ∧ (xw32 ((xw32 (512 * x2)) + x3)) < 12800) (if (M (x0 + 17) (xw32 ((xw32 (512 * x2)) + x3))) = 0 then ((fQ_opensSome_L2 g) x0 x1 x2 (xw32 (x3 + 1)) M) else (xB (fQ_opensIf x0 x1 x2 x3 M) (fun v1 => if v1 = 0 then ((fQ_opensSome_L2 g) x0 x1 x2 (xw32 (x3 + 1)) M) else (some 1))))) else (some 0)
theorem hQ_opensSome_L2 : ∀ (g : Nat) (x0 x1 x2 x3 : Int) (M : xM) (r : Int) (h : fQ_opensSome_L2 g x0 x1 x2 x3 M = some r), xEv (176, 2, [some (13, x0), some (0, x1), some (0, x2), some (0, x3)], [], M) (some (0, r), M)
  | 0, _, _, _, _, _, _, h => by cases h
  | g + 1, x0, x1, x2, x3, M, r, h => by
    unfold fQ_opensSome_L2 at h
    refine xEvG_n xml xfetch 8 (y := (176, if x3 < (xshl 1 (M (x0 + 7) 0)) then 14 else 47, [some (13, x0), some (0, x1), some (0, x2), some (0, x3)], [], M)) rfl ⟨by decide, trivial⟩ ?_
    refine xEvG_br xml xfetch (fun c_ => ?_) (fun c_ => ?_)
    · have h := xif_t c_ h
      have a0_ := (xA_t h).1
      have h := (xA_t h).2
      refine xEvG_n xml xfetch 9 (y := (176, if (M (x0 + 17) (xw32 ((xw32 (512 * x2)) + x3))) = 0 then 41 else 29, [some (13, x0), some (0, x1), some (0, x2), some (0, x3)], [], M)) rfl ⟨a0_, trivial⟩ ?_
      refine xEvG_br xml xfetch (fun c_ => ?_) (fun c_ => ?_)
      · have h := xif_t c_ h
        refine xEvG_n xml xfetch 2 (y := (176, 2, [some (13, x0), some (0, x1), some (0, x2), some (0, (xw32 (x3 + 1)))], [], M)) rfl trivial ?_
        refine xEvG_mask xml xfetch [true, true, true, true] ?_
        exact (hQ_opensSome_L2 g) x0 x1 x2 (xw32 (x3 + 1)) M _ h
      · have h := xif_f c_ h
        refine xEvG_n xml xfetch 4 (y := (176, 33, [some (13, x0), some (0, x1), some (0, x2), some (0, x3)], [(0, x3), (0, x2), (0, x1), (13, x0)], M)) rfl trivial ?_
        obtain ⟨v1, e_, h⟩ := xB_t h
        refine xEvG_call xml xfetch (q := (some (0, v1), M)) rfl (hQ_opensIf x0 x1 x2 x3 M _ e_) ?_
        show xEv (176, 36, [some (13, x0), some (0, x1), some (0, x2), some (0, x3)], [(0, v1)], M) _
        refine xEvG_n xml xfetch 1 (y := (176, if v1 = 0 then 41 else 39, [some (13, x0), some (0, x1), some (0, x2), some (0, x3)], [], M)) rfl trivial ?_
        refine xEvG_br xml xfetch (fun c_ => ?_) (fun c_ => ?_)
        · have h := xif_t c_ h
          refine xEvG_n xml xfetch 2 (y := (176, 2, [some (13, x0), some (0, x1), some (0, x2), some (0, (xw32 (x3 + 1)))], [], M)) rfl trivial ?_
          refine xEvG_mask xml xfetch [true, true, true, true] ?_
          exact (hQ_opensSome_L2 g) x0 x1 x2 (xw32 (x3 + 1)) M _ h
        · have h := xif_f c_ h
          refine xEvG_n xml xfetch 1 (y := (176, 40, [some (13, x0), some (0, x1), some (0, x2), some (0, x3)], [(0, 1)], M)) rfl trivial ?_
          cases h
          exact xEvG_retc xml xfetch rfl (Or.inr rfl)
    · have h := xif_f c_ h
      refine xEvG_n xml xfetch 1 (y := (176, 48, [some (13, x0), some (0, x1), some (0, x2), some (0, x3)], [(0, 0)], M)) rfl trivial ?_
      cases h
      exact xEvG_retc xml xfetch rfl (Or.inl rfl)
/-- ConsentDoorsModel.opensSome(II)Z -/
def fQ_opensSome (a0 a1 a2 : Int) (M : xM) : Option Int := fQ_opensSome_L2 20001 a0 a1 a2 0 M
theorem hQ_opensSome (a0 a1 a2 : Int) (M : xM) (r : Int) (h : fQ_opensSome a0 a1 a2 M = some r) : xEv (176, 0, [some (13, a0), some (0, a1), some (0, a2), none], [], M) (some (0, r), M) := by
  unfold fQ_opensSome at h
  refine xEvG_n xml xfetch 2 (y := (176, 2, [some (13, a0), some (0, a1), some (0, a2), some (0, 0)], [], M)) rfl trivial ?_
  refine xEvG_mask xml xfetch [true, true, true, true] ?_
  exact hQ_opensSome_L2 20001 a0 a1 a2 0 M _ h

def fQ_latest_L31 : Nat → Int → Int → Int → xM → Option (Int × xM)
  | 0, _, _, _, _ => none
  | g + 1, x0, x1, x2, M => if x2 < 0 then (some ((-1), M)) else (xB (fQ_opensSome x0 x1 x2 M) (fun v3 => if v3 = 0 then ((fQ_latest_L31 g) x0 x1 (xw32 (x2 + (-1))) M) else (some (x2, M))))
theorem hQ_latest_L31 : ∀ (g : Nat) (x0 x1 x2 : Int) (M : xM) (r : Int × xM) (h : fQ_latest_L31 g x0 x1 x2 M = some r), xEv (177, 31, [some (13, x0), some (0, x1), some (0, x2)], [], M) (some (0, r.1), r.2)
  | 0, _, _, _, _, _, h => by cases h
  | g + 1, x0, x1, x2, M, r, h => by
    unfold fQ_latest_L31 at h
    refine xEvG_n xml xfetch 2 (y := (177, if x2 < 0 then 52 else 35, [some (13, x0), some (0, x1), some (0, x2)], [], M)) rfl trivial ?_
    refine xEvG_br xml xfetch (fun c_ => ?_) (fun c_ => ?_)
    · have h := xif_t c_ h
      refine xEvG_n xml xfetch 1 (y := (177, 53, [some (13, x0), some (0, x1), some (0, x2)], [(0, (-1))], M)) rfl trivial ?_
      cases h
      exact xEvG_ret xml xfetch rfl
    · have h := xif_f c_ h
      refine xEvG_n xml xfetch 3 (y := (177, 38, [some (13, x0), some (0, x1), some (0, x2)], [(0, x2), (0, x1), (13, x0)], M)) rfl trivial ?_
      obtain ⟨v3, e_, h⟩ := xB_t h
      refine xEvG_call xml xfetch (q := (some (0, v3), M)) rfl (hQ_opensSome x0 x1 x2 M _ e_) ?_
      show xEv (177, 41, [some (13, x0), some (0, x1), some (0, x2)], [(0, v3)], M) _
      refine xEvG_n xml xfetch 1 (y := (177, if v3 = 0 then 46 else 44, [some (13, x0), some (0, x1), some (0, x2)], [], M)) rfl trivial ?_
      refine xEvG_br xml xfetch (fun c_ => ?_) (fun c_ => ?_)
      · have h := xif_t c_ h
        refine xEvG_n xml xfetch 2 (y := (177, 31, [some (13, x0), some (0, x1), some (0, (xw32 (x2 + (-1))))], [], M)) rfl trivial ?_
        refine xEvG_mask xml xfetch [true, true, true] ?_
        exact (hQ_latest_L31 g) x0 x1 (xw32 (x2 + (-1))) M _ h
      · have h := xif_f c_ h
        refine xEvG_n xml xfetch 1 (y := (177, 45, [some (13, x0), some (0, x1), some (0, x2)], [(0, x2)], M)) rfl trivial ?_
        cases h
        exact xEvG_ret xml xfetch rfl
/-- ConsentDoorsModel.latest(I)I -/
def fQ_latest (a0 a1 : Int) (M : xM) : Option (Int × xM) := if (fQ_isCell a0 a1 (xwr M a0 0 0)) = 0 then (some ((-2), (xwr M a0 0 0))) else (xB (fQ_mostPlain a0 (xwr M a0 0 0)) (fun q_ => match q_ with | (v2, m2) => fQ_latest_L31 20001 a0 a1 (xw32 ((m2 (a0 + 7) 1) - 1)) m2))
theorem hQ_latest (a0 a1 : Int) (M : xM) (r : Int × xM) (h : fQ_latest a0 a1 M = some r) : xEv (177, 0, [some (13, a0), some (0, a1), none], [], M) (some (0, r.1), r.2) := by
  unfold fQ_latest at h
  refine xEvG_n xml xfetch 6 (y := (177, 8, [some (13, a0), some (0, a1), none], [(1, a1), (13, a0)], (xwr M a0 0 0))) rfl trivial ?_
  refine xEvG_call xml xfetch (q := (some (0, fQ_isCell a0 a1 (xwr M a0 0 0)), (xwr M a0 0 0))) rfl (hQ_isCell a0 a1 (xwr M a0 0 0) _ rfl) ?_
  show xEv (177, 11, [some (13, a0), some (0, a1), none], [(0, (fQ_isCell a0 a1 (xwr M a0 0 0)))], (xwr M a0 0 0)) _
  refine xEvG_n xml xfetch 1 (y := (177, if (fQ_isCell a0 a1 (xwr M a0 0 0)) = 0 then 14 else 17, [some (13, a0), some (0, a1), none], [], (xwr M a0 0 0))) rfl trivial ?_
  refine xEvG_br xml xfetch (fun c_ => ?_) (fun c_ => ?_)
  · have h := xif_t c_ h
    refine xEvG_n xml xfetch 1 (y := (177, 16, [some (13, a0), some (0, a1), none], [(0, (-2))], (xwr M a0 0 0))) rfl trivial ?_
    cases h
    exact xEvG_ret xml xfetch rfl
  · have h := xif_f c_ h
    refine xEvG_n xml xfetch 1 (y := (177, 18, [some (13, a0), some (0, a1), none], [(13, a0)], (xwr M a0 0 0))) rfl trivial ?_
    obtain ⟨⟨v2, m2⟩, e_, h⟩ := xB_t h
    refine xEvG_call xml xfetch (q := (some (0, v2), m2)) rfl (hQ_mostPlain a0 (xwr M a0 0 0) _ e_) ?_
    show xEv (177, 21, [some (13, a0), some (0, a1), none], [(0, v2)], m2) _
    refine xEvG_n xml xfetch 8 (y := (177, 31, [some (13, a0), some (0, a1), some (0, (xw32 ((m2 (a0 + 7) 1) - 1)))], [], m2)) rfl ⟨by decide, trivial⟩ ?_
    refine xEvG_mask xml xfetch [true, true, true] ?_
    exact hQ_latest_L31 20001 a0 a1 (xw32 ((m2 (a0 + 7) 1) - 1)) m2 _ h

def fQ_earliest_L24 : Nat → Int → Int → Int → xM → Option (Int × xM)
  | 0, _, _, _, _ => none
  | g + 1, x0, x1, x2, M => if x2 < (M (x0 + 7) 1) then (xB (fQ_opensSome x0 x1 x2 M) (fun v3 => if v3 = 0 then ((fQ_earliest_L24 g) x0 x1 (xw32 (x2 + 1)) M) else (some (x2, M)))) else (some ((-1), M))
theorem hQ_earliest_L24 : ∀ (g : Nat) (x0 x1 x2 : Int) (M : xM) (r : Int × xM) (h : fQ_earliest_L24 g x0 x1 x2 M = some r), xEv (178, 24, [some (13, x0), some (0, x1), some (0, x2)], [], M) (some (0, r.1), r.2)
  | 0, _, _, _, _, _, h => by cases h
  | g + 1, x0, x1, x2, M, r, h => by
    unfold fQ_earliest_L24 at h
    refine xEvG_n xml xfetch 6 (y := (178, if x2 < (M (x0 + 7) 1) then 34 else 51, [some (13, x0), some (0, x1), some (0, x2)], [], M)) rfl ⟨by decide, trivial⟩ ?_
    refine xEvG_br xml xfetch (fun c_ => ?_) (fun c_ => ?_)
    · have h := xif_t c_ h
      refine xEvG_n xml xfetch 3 (y := (178, 37, [some (13, x0), some (0, x1), some (0, x2)], [(0, x2), (0, x1), (13, x0)], M)) rfl trivial ?_
      obtain ⟨v3, e_, h⟩ := xB_t h
      refine xEvG_call xml xfetch (q := (some (0, v3), M)) rfl (hQ_opensSome x0 x1 x2 M _ e_) ?_
      show xEv (178, 40, [some (13, x0), some (0, x1), some (0, x2)], [(0, v3)], M) _
      refine xEvG_n xml xfetch 1 (y := (178, if v3 = 0 then 45 else 43, [some (13, x0), some (0, x1), some (0, x2)], [], M)) rfl trivial ?_
      refine xEvG_br xml xfetch (fun c_ => ?_) (fun c_ => ?_)
      · have h := xif_t c_ h
        refine xEvG_n xml xfetch 2 (y := (178, 24, [some (13, x0), some (0, x1), some (0, (xw32 (x2 + 1)))], [], M)) rfl trivial ?_
        refine xEvG_mask xml xfetch [true, true, true] ?_
        exact (hQ_earliest_L24 g) x0 x1 (xw32 (x2 + 1)) M _ h
      · have h := xif_f c_ h
        refine xEvG_n xml xfetch 1 (y := (178, 44, [some (13, x0), some (0, x1), some (0, x2)], [(0, x2)], M)) rfl trivial ?_
        cases h
        exact xEvG_ret xml xfetch rfl
    · have h := xif_f c_ h
      refine xEvG_n xml xfetch 1 (y := (178, 52, [some (13, x0), some (0, x1), some (0, x2)], [(0, (-1))], M)) rfl trivial ?_
      cases h
      exact xEvG_ret xml xfetch rfl
/-- ConsentDoorsModel.earliest(I)I -/
def fQ_earliest (a0 a1 : Int) (M : xM) : Option (Int × xM) := if (fQ_isCell a0 a1 (xwr M a0 0 0)) = 0 then (some ((-2), (xwr M a0 0 0))) else (xB (fQ_mostPlain a0 (xwr M a0 0 0)) (fun q_ => match q_ with | (v2, m2) => fQ_earliest_L24 20001 a0 a1 0 m2))
theorem hQ_earliest (a0 a1 : Int) (M : xM) (r : Int × xM) (h : fQ_earliest a0 a1 M = some r) : xEv (178, 0, [some (13, a0), some (0, a1), none], [], M) (some (0, r.1), r.2) := by
  unfold fQ_earliest at h
  refine xEvG_n xml xfetch 6 (y := (178, 8, [some (13, a0), some (0, a1), none], [(1, a1), (13, a0)], (xwr M a0 0 0))) rfl trivial ?_
  refine xEvG_call xml xfetch (q := (some (0, fQ_isCell a0 a1 (xwr M a0 0 0)), (xwr M a0 0 0))) rfl (hQ_isCell a0 a1 (xwr M a0 0 0) _ rfl) ?_
  show xEv (178, 11, [some (13, a0), some (0, a1), none], [(0, (fQ_isCell a0 a1 (xwr M a0 0 0)))], (xwr M a0 0 0)) _
  refine xEvG_n xml xfetch 1 (y := (178, if (fQ_isCell a0 a1 (xwr M a0 0 0)) = 0 then 14 else 17, [some (13, a0), some (0, a1), none], [], (xwr M a0 0 0))) rfl trivial ?_
  refine xEvG_br xml xfetch (fun c_ => ?_) (fun c_ => ?_)
  · have h := xif_t c_ h
    refine xEvG_n xml xfetch 1 (y := (178, 16, [some (13, a0), some (0, a1), none], [(0, (-2))], (xwr M a0 0 0))) rfl trivial ?_
    cases h
    exact xEvG_ret xml xfetch rfl
  · have h := xif_f c_ h
    refine xEvG_n xml xfetch 1 (y := (178, 18, [some (13, a0), some (0, a1), none], [(13, a0)], (xwr M a0 0 0))) rfl trivial ?_
    obtain ⟨⟨v2, m2⟩, e_, h⟩ := xB_t h
    refine xEvG_call xml xfetch (q := (some (0, v2), m2)) rfl (hQ_mostPlain a0 (xwr M a0 0 0) _ e_) ?_
    show xEv (178, 21, [some (13, a0), some (0, a1), none], [(0, v2)], m2) _
    refine xEvG_n xml xfetch 3 (y := (178, 24, [some (13, a0), some (0, a1), some (0, 0)], [], m2)) rfl trivial ?_
    refine xEvG_mask xml xfetch [true, true, true] ?_
    exact hQ_earliest_L24 20001 a0 a1 0 m2 _ h

def fQ_astray_L25 : Nat → Int → Int → xM → Option (Int × xM)
  | 0, _, _, _ => none
  | g + 1, x0, x1, M => if x1 < (M (x0 + 7) 1) then (xA (0 ≤ x1 ∧ x1 < 24) (xA (0 ≤ (xw32 ((xw32 (512 * (xw32 (x1 + 1)))) + (M (x0 + 16) x1))) ∧ (xw32 ((xw32 (512 * (xw32 (x1 + 1)))) + (M (x0 + 16) x1))) < 12800) (if (M (x0 + 18) (xw32 ((xw32 (512 * (xw32 (x1 + 1)))) + (M (x0 + 16) x1)))) < (M (x0 + 18) 0) then (some (x1, M)) else ((fQ_astray_L25 g) x0 (xw32 (x1 + 1)) M)))) else (some ((-1), M))
theorem hQ_astray_L25 : ∀ (g : Nat) (x0 x1 : Int) (M : xM) (r : Int × xM) (h : fQ_astray_L25 g x0 x1 M = some r), xEv (179, 25, [some (13, x0), some (0, x1)], [], M) (some (0, r.1), r.2)
  | 0, _, _, _, _, h => by cases h
  | g + 1, x0, x1, M, r, h => by
    unfold fQ_astray_L25 at h
    refine xEvG_n xml xfetch 6 (y := (179, if x1 < (M (x0 + 7) 1) then 35 else 71, [some (13, x0), some (0, x1)], [], M)) rfl ⟨by decide, trivial⟩ ?_
    refine xEvG_br xml xfetch (fun c_ => ?_) (fun c_ => ?_)
    · have h := xif_t c_ h
      have a0_ := (xA_t h).1
      have h := (xA_t h).2
      have a1_ := (xA_t h).1
      have h := (xA_t h).2
      refine xEvG_n xml xfetch 18 (y := (179, if (M (x0 + 18) (xw32 ((xw32 (512 * (xw32 (x1 + 1)))) + (M (x0 + 16) x1)))) < (M (x0 + 18) 0) then 63 else 65, [some (13, x0), some (0, x1)], [], M)) rfl ⟨a0_, a1_, by decide, trivial⟩ ?_
      refine xEvG_br xml xfetch (fun c_ => ?_) (fun c_ => ?_)
      · have h := xif_t c_ h
        refine xEvG_n xml xfetch 1 (y := (179, 64, [some (13, x0), some (0, x1)], [(0, x1)], M)) rfl trivial ?_
        cases h
        exact xEvG_ret xml xfetch rfl
      · have h := xif_f c_ h
        refine xEvG_n xml xfetch 2 (y := (179, 25, [some (13, x0), some (0, (xw32 (x1 + 1)))], [], M)) rfl trivial ?_
        refine xEvG_mask xml xfetch [true, true] ?_
        exact (hQ_astray_L25 g) x0 (xw32 (x1 + 1)) M _ h
    · have h := xif_f c_ h
      refine xEvG_n xml xfetch 1 (y := (179, 72, [some (13, x0), some (0, x1)], [(0, (-1))], M)) rfl trivial ?_
      cases h
      exact xEvG_ret xml xfetch rfl
/-- ConsentDoorsModel.astray()I -/
def fQ_astray (a0 : Int) (M : xM) : Option (Int × xM) := if (fQ_isPrison a0 (xwr M a0 0 0)) = 0 then (some ((-2), (xwr M a0 0 0))) else (xB (fQ_asTold a0 (xwr M a0 0 0)) (fun m2 => xB (fQ_laysFinals a0 m2) (fun m3 => fQ_astray_L25 20001 a0 0 m3)))
theorem hQ_astray (a0 : Int) (M : xM) (r : Int × xM) (h : fQ_astray a0 M = some r) : xEv (179, 0, [some (13, a0), none], [], M) (some (0, r.1), r.2) := by
  unfold fQ_astray at h
  refine xEvG_n xml xfetch 4 (y := (179, 6, [some (13, a0), none], [(13, a0)], (xwr M a0 0 0))) rfl trivial ?_
  refine xEvG_call xml xfetch (q := (some (0, fQ_isPrison a0 (xwr M a0 0 0)), (xwr M a0 0 0))) rfl (hQ_isPrison a0 (xwr M a0 0 0) _ rfl) ?_
  show xEv (179, 9, [some (13, a0), none], [(0, (fQ_isPrison a0 (xwr M a0 0 0)))], (xwr M a0 0 0)) _
  refine xEvG_n xml xfetch 1 (y := (179, if (fQ_isPrison a0 (xwr M a0 0 0)) = 0 then 12 else 15, [some (13, a0), none], [], (xwr M a0 0 0))) rfl trivial ?_
  refine xEvG_br xml xfetch (fun c_ => ?_) (fun c_ => ?_)
  · have h := xif_t c_ h
    refine xEvG_n xml xfetch 1 (y := (179, 14, [some (13, a0), none], [(0, (-2))], (xwr M a0 0 0))) rfl trivial ?_
    cases h
    exact xEvG_ret xml xfetch rfl
  · have h := xif_f c_ h
    refine xEvG_n xml xfetch 1 (y := (179, 16, [some (13, a0), none], [(13, a0)], (xwr M a0 0 0))) rfl trivial ?_
    obtain ⟨m2, e_, h⟩ := xB_t h
    refine xEvG_call xml xfetch (q := (none, m2)) rfl (hQ_asTold a0 (xwr M a0 0 0) _ e_) ?_
    show xEv (179, 19, [some (13, a0), none], [], m2) _
    refine xEvG_n xml xfetch 1 (y := (179, 20, [some (13, a0), none], [(13, a0)], m2)) rfl trivial ?_
    obtain ⟨m3, e_, h⟩ := xB_t h
    refine xEvG_call xml xfetch (q := (none, m3)) rfl (hQ_laysFinals a0 m2 _ e_) ?_
    show xEv (179, 23, [some (13, a0), none], [], m3) _
    refine xEvG_n xml xfetch 2 (y := (179, 25, [some (13, a0), some (0, 0)], [], m3)) rfl trivial ?_
    refine xEvG_mask xml xfetch [true, true] ?_
    exact hQ_astray_L25 20001 a0 0 m3 _ h

/-- ConsentDoorsModel.pointsOf(III)I -/
def fQ_pointsOf (a0 a1 a2 a3 : Int) (M : xM) : Option Int := xB (fQ_besideIn a0 0 a1 a2 M) (fun v1 => if v1 = (-1) then (some 0) else (xB (fQ_gravely a0 v1 (xw32 (1 - a2)) a3 M) (fun v2 => if v2 = 0 then (xA (0 ≤ (xw32 ((xw32 (6 * v1)) + 2)) ∧ (xw32 ((xw32 (6 * v1)) + 2)) < 270) (xB (fQ_likesOf a0 v1 (xw32 (1 - a2)) a3 M) (fun v3 => some (if 0 < (xw32 ((M (a0 + 8) (xw32 ((xw32 (6 * v1)) + 2))) - v3)) then (xw32 ((M (a0 + 8) (xw32 ((xw32 (6 * v1)) + 2))) - v3)) else 0 : Int)))) else (some 1000000))))
theorem hQ_pointsOf (a0 a1 a2 a3 : Int) (M : xM) (r : Int) (h : fQ_pointsOf a0 a1 a2 a3 M = some r) : xEv (180, 0, [some (13, a0), some (0, a1), some (0, a2), some (0, a3), none, none], [], M) (some (0, r), M) := by
  unfold fQ_pointsOf at h
  refine xEvG_n xml xfetch 4 (y := (180, 4, [some (13, a0), some (0, a1), some (0, a2), some (0, a3), none, none], [(0, a2), (0, a1), (0, 0), (13, a0)], M)) rfl trivial ?_
  obtain ⟨v1, e_, h⟩ := xB_t h
  refine xEvG_call xml xfetch (q := (some (0, v1), M)) rfl (hQ_besideIn a0 0 a1 a2 M _ e_) ?_
  show xEv (180, 7, [some (13, a0), some (0, a1), some (0, a2), some (0, a3), none, none], [(0, v1)], M) _
  refine xEvG_n xml xfetch 4 (y := (180, if v1 = (-1) then 15 else 17, [some (13, a0), some (0, a1), some (0, a2), some (0, a3), some (0, v1), none], [], M)) rfl trivial ?_
  refine xEvG_br xml xfetch (fun c_ => ?_) (fun c_ => ?_)
  · have h := xif_t c_ h
    refine xEvG_n xml xfetch 1 (y := (180, 16, [some (13, a0), some (0, a1), some (0, a2), some (0, a3), some (0, v1), none], [(0, 0)], M)) rfl trivial ?_
    cases h
    exact xEvG_ret xml xfetch rfl
  · have h := xif_f c_ h
    refine xEvG_n xml xfetch 6 (y := (180, 24, [some (13, a0), some (0, a1), some (0, a2), some (0, a3), some (0, v1), none], [(0, a3), (0, (xw32 (1 - a2))), (0, v1), (13, a0)], M)) rfl trivial ?_
    obtain ⟨v2, e_, h⟩ := xB_t h
    refine xEvG_call xml xfetch (q := (some (0, v2), M)) rfl (hQ_gravely a0 v1 (xw32 (1 - a2)) a3 M _ e_) ?_
    show xEv (180, 27, [some (13, a0), some (0, a1), some (0, a2), some (0, a3), some (0, v1), none], [(0, v2)], M) _
    refine xEvG_n xml xfetch 1 (y := (180, if v2 = 0 then 33 else 30, [some (13, a0), some (0, a1), some (0, a2), some (0, a3), some (0, v1), none], [], M)) rfl trivial ?_
    refine xEvG_br xml xfetch (fun c_ => ?_) (fun c_ => ?_)
    · have h := xif_t c_ h
      have a0_ := (xA_t h).1
      have h := (xA_t h).2
      refine xEvG_n xml xfetch 14 (y := (180, 52, [some (13, a0), some (0, a1), some (0, a2), some (0, a3), some (0, v1), none], [(0, a3), (0, (xw32 (1 - a2))), (0, v1), (13, a0), (0, (M (a0 + 8) (xw32 ((xw32 (6 * v1)) + 2))))], M)) rfl ⟨a0_, trivial⟩ ?_
      obtain ⟨v3, e_, h⟩ := xB_t h
      refine xEvG_call xml xfetch (q := (some (0, v3), M)) rfl (hQ_likesOf a0 v1 (xw32 (1 - a2)) a3 M _ e_) ?_
      show xEv (180, 55, [some (13, a0), some (0, a1), some (0, a2), some (0, a3), some (0, v1), none], [(0, v3), (0, (M (a0 + 8) (xw32 ((xw32 (6 * v1)) + 2))))], M) _
      refine xEvG_n xml xfetch 3 (y := (180, 60, [some (13, a0), some (0, a1), some (0, a2), some (0, a3), some (0, v1), some (0, (xw32 ((M (a0 + 8) (xw32 ((xw32 (6 * v1)) + 2))) - v3)))], [(0, (xw32 ((M (a0 + 8) (xw32 ((xw32 (6 * v1)) + 2))) - v3)))], M)) rfl trivial ?_
      have key_ : xEv (180, 69, [some (13, a0), some (0, a1), some (0, a2), some (0, a3), some (0, v1), some (0, (xw32 ((M (a0 + 8) (xw32 ((xw32 (6 * v1)) + 2))) - v3)))], [(0, (if 0 < (xw32 ((M (a0 + 8) (xw32 ((xw32 (6 * v1)) + 2))) - v3)) then (xw32 ((M (a0 + 8) (xw32 ((xw32 (6 * v1)) + 2))) - v3)) else 0 : Int))], M) (some (0, r), M) := by
        cases h
        exact xEvG_ret xml xfetch rfl
      refine xEvG_n xml xfetch 1 (y := (180, if 0 < (xw32 ((M (a0 + 8) (xw32 ((xw32 (6 * v1)) + 2))) - v3)) then 63 else 68, [some (13, a0), some (0, a1), some (0, a2), some (0, a3), some (0, v1), some (0, (xw32 ((M (a0 + 8) (xw32 ((xw32 (6 * v1)) + 2))) - v3)))], [], M)) rfl trivial ?_
      refine xEvG_br xml xfetch (fun c6_ => ?_) (fun c6_ => ?_)
      · refine xEvG_n xml xfetch 2 (y := (180, 69, [some (13, a0), some (0, a1), some (0, a2), some (0, a3), some (0, v1), some (0, (xw32 ((M (a0 + 8) (xw32 ((xw32 (6 * v1)) + 2))) - v3)))], [(0, (xw32 ((M (a0 + 8) (xw32 ((xw32 (6 * v1)) + 2))) - v3)))], M)) rfl trivial ?_
        try simp only [if_pos c6_] at key_
        try simp only [if_pos c6_]
        exact key_
      · refine xEvG_n xml xfetch 1 (y := (180, 69, [some (13, a0), some (0, a1), some (0, a2), some (0, a3), some (0, v1), some (0, (xw32 ((M (a0 + 8) (xw32 ((xw32 (6 * v1)) + 2))) - v3)))], [(0, 0)], M)) rfl trivial ?_
        try simp only [if_neg c6_] at key_
        try simp only [if_neg c6_]
        exact key_
    · have h := xif_f c_ h
      refine xEvG_n xml xfetch 1 (y := (180, 32, [some (13, a0), some (0, a1), some (0, a2), some (0, a3), some (0, v1), none], [(0, 1000000)], M)) rfl trivial ?_
      cases h
      exact xEvG_ret xml xfetch rfl

/-- ConsentDoorsModel.flatterOf(II)I -/
def fQ_flatterOf (a0 a1 a2 : Int) (M : xM) : Option Int := xB (fQ_pointsOf a0 a1 0 a2 M) (fun v1 => xB (fQ_pointsOf a0 a1 1 a2 M) (fun v2 => some (if (xw32 (v1 + v2)) < 1000000 then (xw32 (v1 + v2)) else 1000000 : Int)))
theorem hQ_flatterOf (a0 a1 a2 : Int) (M : xM) (r : Int) (h : fQ_flatterOf a0 a1 a2 M = some r) : xEv (181, 0, [some (13, a0), some (0, a1), some (0, a2), none], [], M) (some (0, r), M) := by
  unfold fQ_flatterOf at h
  refine xEvG_n xml xfetch 4 (y := (181, 4, [some (13, a0), some (0, a1), some (0, a2), none], [(0, a2), (0, 0), (0, a1), (13, a0)], M)) rfl trivial ?_
  obtain ⟨v1, e_, h⟩ := xB_t h
  refine xEvG_call xml xfetch (q := (some (0, v1), M)) rfl (hQ_pointsOf a0 a1 0 a2 M _ e_) ?_
  show xEv (181, 7, [some (13, a0), some (0, a1), some (0, a2), none], [(0, v1)], M) _
  refine xEvG_n xml xfetch 4 (y := (181, 11, [some (13, a0), some (0, a1), some (0, a2), none], [(0, a2), (0, 1), (0, a1), (13, a0), (0, v1)], M)) rfl trivial ?_
  obtain ⟨v2, e_, h⟩ := xB_t h
  refine xEvG_call xml xfetch (q := (some (0, v2), M)) rfl (hQ_pointsOf a0 a1 1 a2 M _ e_) ?_
  show xEv (181, 14, [some (13, a0), some (0, a1), some (0, a2), none], [(0, v2), (0, v1)], M) _
  refine xEvG_n xml xfetch 4 (y := (181, 19, [some (13, a0), some (0, a1), some (0, a2), some (0, (xw32 (v1 + v2)))], [(0, 1000000), (0, (xw32 (v1 + v2)))], M)) rfl trivial ?_
  have key_ : xEv (181, 28, [some (13, a0), some (0, a1), some (0, a2), some (0, (xw32 (v1 + v2)))], [(0, (if (xw32 (v1 + v2)) < 1000000 then (xw32 (v1 + v2)) else 1000000 : Int))], M) (some (0, r), M) := by
    cases h
    exact xEvG_ret xml xfetch rfl
  refine xEvG_n xml xfetch 1 (y := (181, if (xw32 (v1 + v2)) < 1000000 then 27 else 22, [some (13, a0), some (0, a1), some (0, a2), some (0, (xw32 (v1 + v2)))], [], M)) rfl trivial ?_
  refine xEvG_br xml xfetch (fun c2_ => ?_) (fun c2_ => ?_)
  · refine xEvG_n xml xfetch 1 (y := (181, 28, [some (13, a0), some (0, a1), some (0, a2), some (0, (xw32 (v1 + v2)))], [(0, (xw32 (v1 + v2)))], M)) rfl trivial ?_
    try simp only [if_pos c2_] at key_
    try simp only [if_pos c2_]
    exact key_
  · refine xEvG_n xml xfetch 2 (y := (181, 28, [some (13, a0), some (0, a1), some (0, a2), some (0, (xw32 (v1 + v2)))], [(0, 1000000)], M)) rfl trivial ?_
    try simp only [if_neg c2_] at key_
    try simp only [if_neg c2_]
    exact key_

/-- ConsentDoorsModel.flatter(II)I -/
def fQ_flatter (a0 a1 a2 : Int) (M : xM) : Option (Int × xM) := if (fQ_isCell a0 a1 (xwr M a0 0 0)) = 0 then (some ((-2), (xwr M a0 0 0))) else (if (fQ_isHour a0 a2 (xwr M a0 0 0)) = 0 then (some ((-2), (xwr M a0 0 0))) else (xB (fQ_flatterOf a0 a1 a2 (fQ_plainly a0 (xwr M a0 0 0))) (fun v4 => some ((if v4 = 1000000 then (-1) else v4 : Int), (fQ_plainly a0 (xwr M a0 0 0))))))
theorem hQ_flatter (a0 a1 a2 : Int) (M : xM) (r : Int × xM) (h : fQ_flatter a0 a1 a2 M = some r) : xEv (182, 0, [some (13, a0), some (0, a1), some (0, a2), none], [], M) (some (0, r.1), r.2) := by
  unfold fQ_flatter at h
  refine xEvG_n xml xfetch 6 (y := (182, 8, [some (13, a0), some (0, a1), some (0, a2), none], [(1, a1), (13, a0)], (xwr M a0 0 0))) rfl trivial ?_
  refine xEvG_call xml xfetch (q := (some (0, fQ_isCell a0 a1 (xwr M a0 0 0)), (xwr M a0 0 0))) rfl (hQ_isCell a0 a1 (xwr M a0 0 0) _ rfl) ?_
  show xEv (182, 11, [some (13, a0), some (0, a1), some (0, a2), none], [(0, (fQ_isCell a0 a1 (xwr M a0 0 0)))], (xwr M a0 0 0)) _
  refine xEvG_n xml xfetch 1 (y := (182, if (fQ_isCell a0 a1 (xwr M a0 0 0)) = 0 then 23 else 14, [some (13, a0), some (0, a1), some (0, a2), none], [], (xwr M a0 0 0))) rfl trivial ?_
  refine xEvG_br xml xfetch (fun c_ => ?_) (fun c_ => ?_)
  · have h := xif_t c_ h
    refine xEvG_n xml xfetch 1 (y := (182, 25, [some (13, a0), some (0, a1), some (0, a2), none], [(0, (-2))], (xwr M a0 0 0))) rfl trivial ?_
    cases h
    exact xEvG_ret xml xfetch rfl
  · have h := xif_f c_ h
    refine xEvG_n xml xfetch 3 (y := (182, 17, [some (13, a0), some (0, a1), some (0, a2), none], [(1, a2), (13, a0)], (xwr M a0 0 0))) rfl trivial ?_
    refine xEvG_call xml xfetch (q := (some (0, fQ_isHour a0 a2 (xwr M a0 0 0)), (xwr M a0 0 0))) rfl (hQ_isHour a0 a2 (xwr M a0 0 0) _ rfl) ?_
    show xEv (182, 20, [some (13, a0), some (0, a1), some (0, a2), none], [(0, (fQ_isHour a0 a2 (xwr M a0 0 0)))], (xwr M a0 0 0)) _
    refine xEvG_n xml xfetch 1 (y := (182, if (fQ_isHour a0 a2 (xwr M a0 0 0)) = 0 then 23 else 26, [some (13, a0), some (0, a1), some (0, a2), none], [], (xwr M a0 0 0))) rfl trivial ?_
    refine xEvG_br xml xfetch (fun c_ => ?_) (fun c_ => ?_)
    · have h := xif_t c_ h
      refine xEvG_n xml xfetch 1 (y := (182, 25, [some (13, a0), some (0, a1), some (0, a2), none], [(0, (-2))], (xwr M a0 0 0))) rfl trivial ?_
      cases h
      exact xEvG_ret xml xfetch rfl
    · have h := xif_f c_ h
      refine xEvG_n xml xfetch 1 (y := (182, 27, [some (13, a0), some (0, a1), some (0, a2), none], [(13, a0)], (xwr M a0 0 0))) rfl trivial ?_
      refine xEvG_call xml xfetch (q := (none, fQ_plainly a0 (xwr M a0 0 0))) rfl (hQ_plainly a0 (xwr M a0 0 0) _ rfl) ?_
      show xEv (182, 30, [some (13, a0), some (0, a1), some (0, a2), none], [], (fQ_plainly a0 (xwr M a0 0 0))) _
      refine xEvG_n xml xfetch 3 (y := (182, 33, [some (13, a0), some (0, a1), some (0, a2), none], [(0, a2), (0, a1), (13, a0)], (fQ_plainly a0 (xwr M a0 0 0)))) rfl trivial ?_
      obtain ⟨v4, e_, h⟩ := xB_t h
      refine xEvG_call xml xfetch (q := (some (0, v4), (fQ_plainly a0 (xwr M a0 0 0)))) rfl (hQ_flatterOf a0 a1 a2 (fQ_plainly a0 (xwr M a0 0 0)) _ e_) ?_
      show xEv (182, 36, [some (13, a0), some (0, a1), some (0, a2), none], [(0, v4)], (fQ_plainly a0 (xwr M a0 0 0))) _
      refine xEvG_n xml xfetch 3 (y := (182, 40, [some (13, a0), some (0, a1), some (0, a2), some (0, v4)], [(0, 1000000), (0, v4)], (fQ_plainly a0 (xwr M a0 0 0)))) rfl trivial ?_
      have key_ : xEv (182, 48, [some (13, a0), some (0, a1), some (0, a2), some (0, v4)], [(0, (if v4 = 1000000 then (-1) else v4 : Int))], (fQ_plainly a0 (xwr M a0 0 0))) (some (0, r.1), r.2) := by
        cases h
        exact xEvG_ret xml xfetch rfl
      refine xEvG_n xml xfetch 1 (y := (182, if v4 = 1000000 then 43 else 47, [some (13, a0), some (0, a1), some (0, a2), some (0, v4)], [], (fQ_plainly a0 (xwr M a0 0 0)))) rfl trivial ?_
      refine xEvG_br xml xfetch (fun c6_ => ?_) (fun c6_ => ?_)
      · refine xEvG_n xml xfetch 2 (y := (182, 48, [some (13, a0), some (0, a1), some (0, a2), some (0, v4)], [(0, (-1))], (fQ_plainly a0 (xwr M a0 0 0)))) rfl trivial ?_
        try simp only [if_pos c6_] at key_
        try simp only [if_pos c6_]
        exact key_
      · refine xEvG_n xml xfetch 1 (y := (182, 48, [some (13, a0), some (0, a1), some (0, a2), some (0, v4)], [(0, v4)], (fQ_plainly a0 (xwr M a0 0 0)))) rfl trivial ?_
        try simp only [if_neg c6_] at key_
        try simp only [if_neg c6_]
        exact key_

def fQ_when_L29 : Nat → Int → Int → Int → Int → Int → xM → Option (Int × xM)
  | 0, _, _, _, _, _, _ => none
  | g + 1, x0, x1, x2, x3, x4, M => if x4 < (M (x0 + 7) 1) then (xB (fQ_flatterOf x0 x1 x4 M) (fun v3 => if v3 < x3 then ((fQ_when_L29 g) x0 x1 x4 v3 (xw32 (x4 + 1)) M) else ((fQ_when_L29 g) x0 x1 x2 x3 (xw32 (x4 + 1)) M))) else (some (x2, M))
theorem hQ_when_L29 : ∀ (g : Nat) (x0 x1 x2 x3 x4 : Int) (M : xM) (r : Int × xM) (h : fQ_when_L29 g x0 x1 x2 x3 x4 M = some r), xEv (183, 29, [some (13, x0), some (0, x1), some (0, x2), some (0, x3), some (0, x4), none], [], M) (some (0, r.1), r.2)
  | 0, _, _, _, _, _, _, _, h => by cases h
  | g + 1, x0, x1, x2, x3, x4, M, r, h => by
    unfold fQ_when_L29 at h
    refine xEvG_n xml xfetch 6 (y := (183, if x4 < (M (x0 + 7) 1) then 40 else 70, [some (13, x0), some (0, x1), some (0, x2), some (0, x3), some (0, x4), none], [], M)) rfl ⟨by decide, trivial⟩ ?_
    refine xEvG_br xml xfetch (fun c_ => ?_) (fun c_ => ?_)
    · have h := xif_t c_ h
      refine xEvG_n xml xfetch 3 (y := (183, 44, [some (13, x0), some (0, x1), some (0, x2), some (0, x3), some (0, x4), none], [(0, x4), (0, x1), (13, x0)], M)) rfl trivial ?_
      obtain ⟨v3, e_, h⟩ := xB_t h
      refine xEvG_call xml xfetch (q := (some (0, v3), M)) rfl (hQ_flatterOf x0 x1 x4 M _ e_) ?_
      show xEv (183, 47, [some (13, x0), some (0, x1), some (0, x2), some (0, x3), some (0, x4), none], [(0, v3)], M) _
      refine xEvG_n xml xfetch 4 (y := (183, if v3 < x3 then 58 else 55, [some (13, x0), some (0, x1), some (0, x2), some (0, x3), some (0, x4), some (0, v3)], [], M)) rfl trivial ?_
      refine xEvG_br xml xfetch (fun c_ => ?_) (fun c_ => ?_)
      · have h := xif_t c_ h
        refine xEvG_n xml xfetch 6 (y := (183, 29, [some (13, x0), some (0, x1), some (0, x4), some (0, v3), some (0, (xw32 (x4 + 1))), some (0, v3)], [], M)) rfl trivial ?_
        refine xEvG_mask xml xfetch [true, true, true, true, true, false] ?_
        exact (hQ_when_L29 g) x0 x1 x4 v3 (xw32 (x4 + 1)) M _ h
      · have h := xif_f c_ h
        refine xEvG_n xml xfetch 3 (y := (183, 29, [some (13, x0), some (0, x1), some (0, x2), some (0, x3), some (0, (xw32 (x4 + 1))), some (0, v3)], [], M)) rfl trivial ?_
        refine xEvG_mask xml xfetch [true, true, true, true, true, false] ?_
        exact (hQ_when_L29 g) x0 x1 x2 x3 (xw32 (x4 + 1)) M _ h
    · have h := xif_f c_ h
      refine xEvG_n xml xfetch 1 (y := (183, 71, [some (13, x0), some (0, x1), some (0, x2), some (0, x3), some (0, x4), none], [(0, x2)], M)) rfl trivial ?_
      cases h
      exact xEvG_ret xml xfetch rfl
/-- ConsentDoorsModel.when(I)I -/
def fQ_when (a0 a1 : Int) (M : xM) : Option (Int × xM) := if (fQ_isCell a0 a1 (xwr M a0 0 0)) = 0 then (some ((-2), (xwr M a0 0 0))) else (fQ_when_L29 20001 a0 a1 (-1) 1000000 0 (fQ_plainly a0 (xwr M a0 0 0)))
theorem hQ_when (a0 a1 : Int) (M : xM) (r : Int × xM) (h : fQ_when a0 a1 M = some r) : xEv (183, 0, [some (13, a0), some (0, a1), none, none, none, none], [], M) (some (0, r.1), r.2) := by
  unfold fQ_when at h
  refine xEvG_n xml xfetch 6 (y := (183, 8, [some (13, a0), some (0, a1), none, none, none, none], [(1, a1), (13, a0)], (xwr M a0 0 0))) rfl trivial ?_
  refine xEvG_call xml xfetch (q := (some (0, fQ_isCell a0 a1 (xwr M a0 0 0)), (xwr M a0 0 0))) rfl (hQ_isCell a0 a1 (xwr M a0 0 0) _ rfl) ?_
  show xEv (183, 11, [some (13, a0), some (0, a1), none, none, none, none], [(0, (fQ_isCell a0 a1 (xwr M a0 0 0)))], (xwr M a0 0 0)) _
  refine xEvG_n xml xfetch 1 (y := (183, if (fQ_isCell a0 a1 (xwr M a0 0 0)) = 0 then 14 else 17, [some (13, a0), some (0, a1), none, none, none, none], [], (xwr M a0 0 0))) rfl trivial ?_
  refine xEvG_br xml xfetch (fun c_ => ?_) (fun c_ => ?_)
  · have h := xif_t c_ h
    refine xEvG_n xml xfetch 1 (y := (183, 16, [some (13, a0), some (0, a1), none, none, none, none], [(0, (-2))], (xwr M a0 0 0))) rfl trivial ?_
    cases h
    exact xEvG_ret xml xfetch rfl
  · have h := xif_f c_ h
    refine xEvG_n xml xfetch 1 (y := (183, 18, [some (13, a0), some (0, a1), none, none, none, none], [(13, a0)], (xwr M a0 0 0))) rfl trivial ?_
    refine xEvG_call xml xfetch (q := (none, fQ_plainly a0 (xwr M a0 0 0))) rfl (hQ_plainly a0 (xwr M a0 0 0) _ rfl) ?_
    show xEv (183, 21, [some (13, a0), some (0, a1), none, none, none, none], [], (fQ_plainly a0 (xwr M a0 0 0))) _
    refine xEvG_n xml xfetch 6 (y := (183, 29, [some (13, a0), some (0, a1), some (0, (-1)), some (0, 1000000), some (0, 0), none], [], (fQ_plainly a0 (xwr M a0 0 0)))) rfl trivial ?_
    refine xEvG_mask xml xfetch [true, true, true, true, true, false] ?_
    exact hQ_when_L29 20001 a0 a1 (-1) 1000000 0 (fQ_plainly a0 (xwr M a0 0 0)) _ h

def fQ_corridorOf_L41 : Nat → Int → Int → Int → Int → xM → Option Int
  | 0, _, _, _, _, _ => none
  | g + 1, x0, x2, x3, x4, M => if x4 = x2 then (some x3) else (xA ((M (x0 + 7) 0) ≠ 0) ((fQ_corridorOf_L41 g) x0 x2 (xor32 x3 (xshl 1 x4)) (xrem (xw32 (x4 + 1)) (M (x0 + 7) 0)) M))
theorem hQ_corridorOf_L41 : ∀ (g : Nat) (x0 x2 x3 x4 : Int) (M : xM) (r : Int) (h : fQ_corridorOf_L41 g x0 x2 x3 x4 M = some r), xEv (186, 41, [some (13, x0), none, some (0, x2), some (0, x3), some (0, x4)], [], M) (some (0, r), M)
  | 0, _, _, _, _, _, _, h => by cases h
  | g + 1, x0, x2, x3, x4, M, r, h => by
    unfold fQ_corridorOf_L41 at h
    refine xEvG_n xml xfetch 3 (y := (186, if x4 = x2 then 70 else 47, [some (13, x0), none, some (0, x2), some (0, x3), some (0, x4)], [], M)) rfl trivial ?_
    refine xEvG_br xml xfetch (fun c_ => ?_) (fun c_ => ?_)
    · have h := xif_t c_ h
      refine xEvG_n xml xfetch 1 (y := (186, 71, [some (13, x0), none, some (0, x2), some (0, x3), some (0, x4)], [(0, x3)], M)) rfl trivial ?_
      cases h
      exact xEvG_ret xml xfetch rfl
    · have h := xif_f c_ h
      have a1_ := (xA_t h).1
      have h := (xA_t h).2
      refine xEvG_n xml xfetch 16 (y := (186, 41, [some (13, x0), none, some (0, x2), some (0, (xor32 x3 (xshl 1 x4))), some (0, (xrem (xw32 (x4 + 1)) (M (x0 + 7) 0)))], [], M)) rfl ⟨by decide, a1_, trivial⟩ ?_
      refine xEvG_mask xml xfetch [true, false, true, true, true] ?_
      exact (hQ_corridorOf_L41 g) x0 x2 (xor32 x3 (xshl 1 x4)) (xrem (xw32 (x4 + 1)) (M (x0 + 7) 0)) M _ h
/-- ConsentDoorsModel.corridorOf(II)I -/
def fQ_corridorOf (a0 a1 a2 : Int) (M : xM) : Option Int := if (fQ_isCell a0 a1 M) = 0 then (some (-1)) else (if (fQ_isCell a0 a2 M) = 0 then (some (-1)) else (if (M (a0 + 7) 3) = 0 then (if a2 < a1 then (some (-1)) else (fQ_corridorOf_L41 20001 a0 a2 (xshl 1 a2) a1 M)) else (fQ_corridorOf_L41 20001 a0 a2 (xshl 1 a2) a1 M)))
theorem hQ_corridorOf (a0 a1 a2 : Int) (M : xM) (r : Int) (h : fQ_corridorOf a0 a1 a2 M = some r) : xEv (186, 0, [some (13, a0), some (0, a1), some (0, a2), none, none], [], M) (some (0, r), M) := by
  unfold fQ_corridorOf at h
  refine xEvG_n xml xfetch 3 (y := (186, 3, [some (13, a0), some (0, a1), some (0, a2), none, none], [(1, a1), (13, a0)], M)) rfl trivial ?_
  refine xEvG_call xml xfetch (q := (some (0, fQ_isCell a0 a1 M), M)) rfl (hQ_isCell a0 a1 M _ rfl) ?_
  show xEv (186, 6, [some (13, a0), some (0, a1), some (0, a2), none, none], [(0, (fQ_isCell a0 a1 M))], M) _
  refine xEvG_n xml xfetch 1 (y := (186, if (fQ_isCell a0 a1 M) = 0 then 32 else 9, [some (13, a0), some (0, a1), some (0, a2), none, none], [], M)) rfl trivial ?_
  refine xEvG_br xml xfetch (fun c_ => ?_) (fun c_ => ?_)
  · have h := xif_t c_ h
    refine xEvG_n xml xfetch 1 (y := (186, 33, [some (13, a0), some (0, a1), some (0, a2), none, none], [(0, (-1))], M)) rfl trivial ?_
    cases h
    exact xEvG_ret xml xfetch rfl
  · have h := xif_f c_ h
    refine xEvG_n xml xfetch 3 (y := (186, 12, [some (13, a0), some (0, a1), some (0, a2), none, none], [(1, a2), (13, a0)], M)) rfl trivial ?_
    refine xEvG_call xml xfetch (q := (some (0, fQ_isCell a0 a2 M), M)) rfl (hQ_isCell a0 a2 M _ rfl) ?_
    show xEv (186, 15, [some (13, a0), some (0, a1), some (0, a2), none, none], [(0, (fQ_isCell a0 a2 M))], M) _
    refine xEvG_n xml xfetch 1 (y := (186, if (fQ_isCell a0 a2 M) = 0 then 32 else 18, [some (13, a0), some (0, a1), some (0, a2), none, none], [], M)) rfl trivial ?_
    refine xEvG_br xml xfetch (fun c_ => ?_) (fun c_ => ?_)
    · have h := xif_t c_ h
      refine xEvG_n xml xfetch 1 (y := (186, 33, [some (13, a0), some (0, a1), some (0, a2), none, none], [(0, (-1))], M)) rfl trivial ?_
      cases h
      exact xEvG_ret xml xfetch rfl
    · have h := xif_f c_ h
      refine xEvG_n xml xfetch 5 (y := (186, if (M (a0 + 7) 3) = 0 then 27 else 34, [some (13, a0), some (0, a1), some (0, a2), none, none], [], M)) rfl ⟨by decide, trivial⟩ ?_
      refine xEvG_br xml xfetch (fun c_ => ?_) (fun c_ => ?_)
      · have h := xif_t c_ h
        refine xEvG_n xml xfetch 3 (y := (186, if a2 < a1 then 32 else 34, [some (13, a0), some (0, a1), some (0, a2), none, none], [], M)) rfl trivial ?_
        refine xEvG_br xml xfetch (fun c_ => ?_) (fun c_ => ?_)
        · have h := xif_t c_ h
          refine xEvG_n xml xfetch 1 (y := (186, 33, [some (13, a0), some (0, a1), some (0, a2), none, none], [(0, (-1))], M)) rfl trivial ?_
          cases h
          exact xEvG_ret xml xfetch rfl
        · have h := xif_f c_ h
          refine xEvG_n xml xfetch 6 (y := (186, 41, [some (13, a0), some (0, a1), some (0, a2), some (0, (xshl 1 a2)), some (0, a1)], [], M)) rfl trivial ?_
          refine xEvG_mask xml xfetch [true, false, true, true, true] ?_
          exact hQ_corridorOf_L41 20001 a0 a2 (xshl 1 a2) a1 M _ h
      · have h := xif_f c_ h
        refine xEvG_n xml xfetch 6 (y := (186, 41, [some (13, a0), some (0, a1), some (0, a2), some (0, (xshl 1 a2)), some (0, a1)], [], M)) rfl trivial ?_
        refine xEvG_mask xml xfetch [true, false, true, true, true] ?_
        exact hQ_corridorOf_L41 20001 a0 a2 (xshl 1 a2) a1 M _ h

/-- ConsentDoorsModel.isIn(III)Z -/
def fQ_isIn (a0 a1 a2 a3 : Int) (M : xM) : Option Int := xB (fQ_besideIn a0 0 a1 a2 M) (fun v1 => if v1 = (-1) then (some 1) else (if (fQ_isBit a3 v1 M) = 0 then (some 1) else (xB (fQ_isLoyal a0 v1 M) (fun v3 => some (if v3 = 0 then 0 else 1 : Int)))))
theorem hQ_isIn (a0 a1 a2 a3 : Int) (M : xM) (r : Int) (h : fQ_isIn a0 a1 a2 a3 M = some r) : xEv (184, 0, [some (13, a0), some (0, a1), some (0, a2), some (0, a3), none], [], M) (some (0, r), M) := by
  unfold fQ_isIn at h
  refine xEvG_n xml xfetch 4 (y := (184, 4, [some (13, a0), some (0, a1), some (0, a2), some (0, a3), none], [(0, a2), (0, a1), (0, 0), (13, a0)], M)) rfl trivial ?_
  obtain ⟨v1, e_, h⟩ := xB_t h
  refine xEvG_call xml xfetch (q := (some (0, v1), M)) rfl (hQ_besideIn a0 0 a1 a2 M _ e_) ?_
  show xEv (184, 7, [some (13, a0), some (0, a1), some (0, a2), some (0, a3), none], [(0, v1)], M) _
  refine xEvG_n xml xfetch 4 (y := (184, if v1 = (-1) then 33 else 15, [some (13, a0), some (0, a1), some (0, a2), some (0, a3), some (0, v1)], [], M)) rfl trivial ?_
  refine xEvG_br xml xfetch (fun c_ => ?_) (fun c_ => ?_)
  · have h := xif_t c_ h
    refine xEvG_n xml xfetch 2 (y := (184, 38, [some (13, a0), some (0, a1), some (0, a2), some (0, a3), some (0, v1)], [(0, 1)], M)) rfl trivial ?_
    cases h
    exact xEvG_retc xml xfetch rfl (Or.inr rfl)
  · have h := xif_f c_ h
    refine xEvG_n xml xfetch 2 (y := (184, 18, [some (13, a0), some (0, a1), some (0, a2), some (0, a3), some (0, v1)], [(0, v1), (0, a3)], M)) rfl trivial ?_
    refine xEvG_call xml xfetch (q := (some (0, fQ_isBit a3 v1 M), M)) rfl (hQ_isBit a3 v1 M _ rfl) ?_
    show xEv (184, 21, [some (13, a0), some (0, a1), some (0, a2), some (0, a3), some (0, v1)], [(0, (fQ_isBit a3 v1 M))], M) _
    refine xEvG_n xml xfetch 1 (y := (184, if (fQ_isBit a3 v1 M) = 0 then 33 else 24, [some (13, a0), some (0, a1), some (0, a2), some (0, a3), some (0, v1)], [], M)) rfl trivial ?_
    refine xEvG_br xml xfetch (fun c_ => ?_) (fun c_ => ?_)
    · have h := xif_t c_ h
      refine xEvG_n xml xfetch 2 (y := (184, 38, [some (13, a0), some (0, a1), some (0, a2), some (0, a3), some (0, v1)], [(0, 1)], M)) rfl trivial ?_
      cases h
      exact xEvG_retc xml xfetch rfl (Or.inr rfl)
    · have h := xif_f c_ h
      refine xEvG_n xml xfetch 2 (y := (184, 27, [some (13, a0), some (0, a1), some (0, a2), some (0, a3), some (0, v1)], [(0, v1), (13, a0)], M)) rfl trivial ?_
      obtain ⟨v3, e_, h⟩ := xB_t h
      refine xEvG_call xml xfetch (q := (some (0, v3), M)) rfl (hQ_isLoyal a0 v1 M _ e_) ?_
      show xEv (184, 30, [some (13, a0), some (0, a1), some (0, a2), some (0, a3), some (0, v1)], [(0, v3)], M) _
      have key_ : xEv (184, 38, [some (13, a0), some (0, a1), some (0, a2), some (0, a3), some (0, v1)], [(0, (if v3 = 0 then 0 else 1 : Int))], M) (some (0, r), M) := by
        cases h
        exact xEvG_retc xml xfetch rfl (by (repeat' split) <;> first | exact Or.inl rfl | exact Or.inr rfl)
      refine xEvG_n xml xfetch 1 (y := (184, if v3 = 0 then 37 else 33, [some (13, a0), some (0, a1), some (0, a2), some (0, a3), some (0, v1)], [], M)) rfl trivial ?_
      refine xEvG_br xml xfetch (fun c6_ => ?_) (fun c6_ => ?_)
      · refine xEvG_n xml xfetch 1 (y := (184, 38, [some (13, a0), some (0, a1), some (0, a2), some (0, a3), some (0, v1)], [(0, 0)], M)) rfl trivial ?_
        try simp only [if_pos c6_] at key_
        try simp only [if_pos c6_]
        exact key_
      · refine xEvG_n xml xfetch 2 (y := (184, 38, [some (13, a0), some (0, a1), some (0, a2), some (0, a3), some (0, v1)], [(0, 1)], M)) rfl trivial ?_
        try simp only [if_neg c6_] at key_
        try simp only [if_neg c6_]
        exact key_

def fQ_corridorBy_L220 (k_84 : Int → Int → Int → Int → Int → Int → Int → xM → Option (Int × xM)) (x0 x1 x2 x3 x4 x5 x6 y0 y1 : Int) (M : xM) : Option (Int × xM) := xA (0 ≤ (xor32 x5 (xshl 1 x6)) ∧ (xor32 x5 (xshl 1 x6)) < 512) (if (xw32 (y1 + y0)) < (M (x0 + 19) (xor32 x5 (xshl 1 x6))) then (xA (0 ≤ (xor32 x5 (xshl 1 x6)) ∧ (xor32 x5 (xshl 1 x6)) < 512) (k_84 x0 x1 x2 x3 x4 x5 (xw32 (x6 + 1)) (xwr M (x0 + 19) (xor32 x5 (xshl 1 x6)) (xw32 (y1 + y0))))) else (xA (0 ≤ (xor32 x5 (xshl 1 x6)) ∧ (xor32 x5 (xshl 1 x6)) < 512) (xA (0 ≤ (xor32 x5 (xshl 1 x6)) ∧ (xor32 x5 (xshl 1 x6)) < 512) (k_84 x0 x1 x2 x3 x4 x5 (xw32 (x6 + 1)) (xwr M (x0 + 19) (xor32 x5 (xshl 1 x6)) (M (x0 + 19) (xor32 x5 (xshl 1 x6))))))))
theorem hQ_corridorBy_L220 (k_84 : Int → Int → Int → Int → Int → Int → Int → xM → Option (Int × xM)) (hk_84 : ∀ (x0 x1 x2 x3 x4 x5 x6 : Int) (M : xM) (r : Int × xM), k_84 x0 x1 x2 x3 x4 x5 x6 M = some r → xEv (185, 84, [some (13, x0), some (0, x1), some (0, x2), some (0, x3), some (0, x4), some (0, x5), some (0, x6), none, none, none, none], [], M) (some (0, r.1), r.2)) (x0 x1 x2 x3 x4 x5 x6 y0 y1 : Int) (M : xM) (r : Int × xM) (h : fQ_corridorBy_L220 k_84 x0 x1 x2 x3 x4 x5 x6 y0 y1 M = some r) : xEv (185, 220, [some (13, x0), some (0, x1), some (0, x2), some (0, x3), some (0, x4), some (0, x5), some (0, x6), none, none, none, none], [(0, y0), (0, y1)], M) (some (0, r.1), r.2) := by
  unfold fQ_corridorBy_L220 at h
  have a0_ := (xA_t h).1
  have h := (xA_t h).2
  refine xEvG_n xml xfetch 17 (y := (185, if (xw32 (y1 + y0)) < (M (x0 + 19) (xor32 x5 (xshl 1 x6))) then 250 else 255, [some (13, x0), some (0, x1), some (0, x2), some (0, x3), some (0, x4), some (0, x5), some (0, x6), none, none, some (0, (xw32 (y1 + y0))), some (0, (xor32 x5 (xshl 1 x6)))], [(0, (xor32 x5 (xshl 1 x6))), (28, (x0 + 19))], M)) rfl ⟨a0_, trivial⟩ ?_
  refine xEvG_br xml xfetch (fun c_ => ?_) (fun c_ => ?_)
  · have h := xif_t c_ h
    have a0_ := (xA_t h).1
    have h := (xA_t h).2
    refine xEvG_n xml xfetch 5 (y := (185, 84, [some (13, x0), some (0, x1), some (0, x2), some (0, x3), some (0, x4), some (0, x5), some (0, (xw32 (x6 + 1))), none, none, some (0, (xw32 (y1 + y0))), some (0, (xor32 x5 (xshl 1 x6)))], [], (xwr M (x0 + 19) (xor32 x5 (xshl 1 x6)) (xw32 (y1 + y0))))) rfl ⟨a0_, trivial⟩ ?_
    refine xEvG_mask xml xfetch [true, true, true, true, true, true, true, false, false, false, false] ?_
    exact hk_84 x0 x1 x2 x3 x4 x5 (xw32 (x6 + 1)) (xwr M (x0 + 19) (xor32 x5 (xshl 1 x6)) (xw32 (y1 + y0))) _ h
  · have h := xif_f c_ h
    have a0_ := (xA_t h).1
    have h := (xA_t h).2
    have a1_ := (xA_t h).1
    have h := (xA_t h).2
    refine xEvG_n xml xfetch 7 (y := (185, 84, [some (13, x0), some (0, x1), some (0, x2), some (0, x3), some (0, x4), some (0, x5), some (0, (xw32 (x6 + 1))), none, none, some (0, (xw32 (y1 + y0))), some (0, (xor32 x5 (xshl 1 x6)))], [], (xwr M (x0 + 19) (xor32 x5 (xshl 1 x6)) (M (x0 + 19) (xor32 x5 (xshl 1 x6)))))) rfl ⟨a0_, a1_, trivial⟩ ?_
    refine xEvG_mask xml xfetch [true, true, true, true, true, true, true, false, false, false, false] ?_
    exact hk_84 x0 x1 x2 x3 x4 x5 (xw32 (x6 + 1)) (xwr M (x0 + 19) (xor32 x5 (xshl 1 x6)) (M (x0 + 19) (xor32 x5 (xshl 1 x6)))) _ h
def fQ_corridorBy_L211 (k_84 : Int → Int → Int → Int → Int → Int → Int → xM → Option (Int × xM)) (x0 x1 x2 x3 x4 x5 x6 y0 y1 y2 : Int) (M : xM) : Option (Int × xM) := fQ_corridorBy_L220 k_84 x0 x1 x2 x3 x4 x5 x6 (xw32 (y1 + y0)) y2 M
theorem hQ_corridorBy_L211 (k_84 : Int → Int → Int → Int → Int → Int → Int → xM → Option (Int × xM)) (hk_84 : ∀ (x0 x1 x2 x3 x4 x5 x6 : Int) (M : xM) (r : Int × xM), k_84 x0 x1 x2 x3 x4 x5 x6 M = some r → xEv (185, 84, [some (13, x0), some (0, x1), some (0, x2), some (0, x3), some (0, x4), some (0, x5), some (0, x6), none, none, none, none], [], M) (some (0, r.1), r.2)) (x0 x1 x2 x3 x4 x5 x6 y0 y1 y2 : Int) (M : xM) (r : Int × xM) (h : fQ_corridorBy_L211 k_84 x0 x1 x2 x3 x4 x5 x6 y0 y1 y2 M = some r) : xEv (185, 211, [some (13, x0), some (0, x1), some (0, x2), some (0, x3), some (0, x4), some (0, x5), some (0, x6), none, none, none, none], [(0, y0), (0, y1), (0, y2)], M) (some (0, r.1), r.2) := by
  unfold fQ_corridorBy_L211 at h
  refine xEvG_n xml xfetch 2 (y := (185, 220, [some (13, x0), some (0, x1), some (0, x2), some (0, x3), some (0, x4), some (0, x5), some (0, x6), none, none, none, none], [(0, (xw32 (y1 + y0))), (0, y2)], M)) rfl trivial ?_
  refine xEvG_mask xml xfetch [true, true, true, true, true, true, true, false, false, false, false] ?_
  exact hQ_corridorBy_L220 k_84 hk_84 x0 x1 x2 x3 x4 x5 x6 (xw32 (y1 + y0)) y2 M _ h
def fQ_corridorBy_L201 (k_84 : Int → Int → Int → Int → Int → Int → Int → xM → Option (Int × xM)) (x0 x1 x2 x3 x4 x5 x6 x8 y0 y1 : Int) (M : xM) : Option (Int × xM) := if 0 < x8 then (fQ_corridorBy_L211 k_84 x0 x1 x2 x3 x4 x5 x6 1 y0 y1 M) else (fQ_corridorBy_L211 k_84 x0 x1 x2 x3 x4 x5 x6 0 y0 y1 M)
theorem hQ_corridorBy_L201 (k_84 : Int → Int → Int → Int → Int → Int → Int → xM → Option (Int × xM)) (hk_84 : ∀ (x0 x1 x2 x3 x4 x5 x6 : Int) (M : xM) (r : Int × xM), k_84 x0 x1 x2 x3 x4 x5 x6 M = some r → xEv (185, 84, [some (13, x0), some (0, x1), some (0, x2), some (0, x3), some (0, x4), some (0, x5), some (0, x6), none, none, none, none], [], M) (some (0, r.1), r.2)) (x0 x1 x2 x3 x4 x5 x6 x8 y0 y1 : Int) (M : xM) (r : Int × xM) (h : fQ_corridorBy_L201 k_84 x0 x1 x2 x3 x4 x5 x6 x8 y0 y1 M = some r) : xEv (185, 201, [some (13, x0), some (0, x1), some (0, x2), some (0, x3), some (0, x4), some (0, x5), some (0, x6), none, some (0, x8), none, none], [(0, y0), (0, y1)], M) (some (0, r.1), r.2) := by
  unfold fQ_corridorBy_L201 at h
  refine xEvG_n xml xfetch 2 (y := (185, if 0 < x8 then 206 else 210, [some (13, x0), some (0, x1), some (0, x2), some (0, x3), some (0, x4), some (0, x5), some (0, x6), none, some (0, x8), none, none], [(0, y0), (0, y1)], M)) rfl trivial ?_
  refine xEvG_br xml xfetch (fun c_ => ?_) (fun c_ => ?_)
  · have h := xif_t c_ h
    refine xEvG_n xml xfetch 2 (y := (185, 211, [some (13, x0), some (0, x1), some (0, x2), some (0, x3), some (0, x4), some (0, x5), some (0, x6), none, some (0, x8), none, none], [(0, 1), (0, y0), (0, y1)], M)) rfl trivial ?_
    refine xEvG_mask xml xfetch [true, true, true, true, true, true, true, false, false, false, false] ?_
    exact hQ_corridorBy_L211 k_84 hk_84 x0 x1 x2 x3 x4 x5 x6 1 y0 y1 M _ h
  · have h := xif_f c_ h
    refine xEvG_n xml xfetch 1 (y := (185, 211, [some (13, x0), some (0, x1), some (0, x2), some (0, x3), some (0, x4), some (0, x5), some (0, x6), none, some (0, x8), none, none], [(0, 0), (0, y0), (0, y1)], M)) rfl trivial ?_
    refine xEvG_mask xml xfetch [true, true, true, true, true, true, true, false, false, false, false] ?_
    exact hQ_corridorBy_L211 k_84 hk_84 x0 x1 x2 x3 x4 x5 x6 0 y0 y1 M _ h
def fQ_corridorBy_L84 (k_61 : Int → Int → Int → Int → Int → Int → xM → Option (Int × xM)) : Nat → Int → Int → Int → Int → Int → Int → Int → xM → Option (Int × xM)
  | 0, _, _, _, _, _, _, _, _ => none
  | g + 1, x0, x1, x2, x3, x4, x5, x6, M => if x6 < (M (x0 + 7) 0) then (if (fQ_isBit x1 x6 M) = 0 then ((fQ_corridorBy_L84 k_61 g) x0 x1 x2 x3 x4 x5 (xw32 (x6 + 1)) M) else (if (fQ_isBit x5 x6 M) = 0 then (xB (fQ_isIn x0 x6 0 x5 M) (fun v3 => if v3 = 0 then ((fQ_corridorBy_L84 k_61 g) x0 x1 x2 x3 x4 x5 (xw32 (x6 + 1)) M) else (xB (fQ_isIn x0 x6 1 x5 M) (fun v4 => if v4 = 0 then ((fQ_corridorBy_L84 k_61 g) x0 x1 x2 x3 x4 x5 (xw32 (x6 + 1)) M) else (xB (fQ_pointsOf x0 x6 0 x4 M) (fun v5 => xB (fQ_pointsOf x0 x6 1 x4 M) (fun v6 => if v5 < 1000000 then (if v6 < 1000000 then (xA (0 ≤ x5 ∧ x5 < 512) (if x2 = 0 then (fQ_corridorBy_L220 (fQ_corridorBy_L84 k_61 g) x0 x1 x2 x3 x4 x5 x6 (xw32 (v5 + v6)) (M (x0 + 19) x5) M) else (if 0 < v5 then (fQ_corridorBy_L201 (fQ_corridorBy_L84 k_61 g) x0 x1 x2 x3 x4 x5 x6 v6 1 (M (x0 + 19) x5) M) else (fQ_corridorBy_L201 (fQ_corridorBy_L84 k_61 g) x0 x1 x2 x3 x4 x5 x6 v6 0 (M (x0 + 19) x5) M)))) else ((fQ_corridorBy_L84 k_61 g) x0 x1 x2 x3 x4 x5 (xw32 (x6 + 1)) M)) else ((fQ_corridorBy_L84 k_61 g) x0 x1 x2 x3 x4 x5 (xw32 (x6 + 1)) M)))))))) else ((fQ_corridorBy_L84 k_61 g) x0 x1 x2 x3 x4 x5 (xw32 (x6 + 1)) M))) else (k_61 x0 x1 x2 x3 x4 (xw32 (x5 + (-1))) M)
theorem hQ_corridorBy_L84 (k_61 : Int → Int → Int → Int → Int → Int → xM → Option (Int × xM)) (hk_61 : ∀ (x0 x1 x2 x3 x4 x5 : Int) (M : xM) (r : Int × xM), k_61 x0 x1 x2 x3 x4 x5 M = some r → xEv (185, 61, [some (13, x0), some (0, x1), some (0, x2), some (0, x3), some (0, x4), some (0, x5), none, none, none, none, none], [], M) (some (0, r.1), r.2)) : ∀ (g : Nat) (x0 x1 x2 x3 x4 x5 x6 : Int) (M : xM) (r : Int × xM) (h : fQ_corridorBy_L84 k_61 g x0 x1 x2 x3 x4 x5 x6 M = some r), xEv (185, 84, [some (13, x0), some (0, x1), some (0, x2), some (0, x3), some (0, x4), some (0, x5), some (0, x6), none, none, none, none], [], M) (some (0, r.1), r.2)
  | 0, _, _, _, _, _, _, _, _, _, h => by cases h
  | g + 1, x0, x1, x2, x3, x4, x5, x6, M, r, h => by
    unfold fQ_corridorBy_L84 at h
    refine xEvG_n xml xfetch 6 (y := (185, if x6 < (M (x0 + 7) 0) then 95 else 269, [some (13, x0), some (0, x1), some (0, x2), some (0, x3), some (0, x4), some (0, x5), some (0, x6), none, none, none, none], [], M)) rfl ⟨by decide, trivial⟩ ?_
    refine xEvG_br xml xfetch (fun c_ => ?_) (fun c_ => ?_)
    · have h := xif_t c_ h
      refine xEvG_n xml xfetch 2 (y := (185, 98, [some (13, x0), some (0, x1), some (0, x2), some (0, x3), some (0, x4), some (0, x5), some (0, x6), none, none, none, none], [(0, x6), (0, x1)], M)) rfl trivial ?_
      refine xEvG_call xml xfetch (q := (some (0, fQ_isBit x1 x6 M), M)) rfl (hQ_isBit x1 x6 M _ rfl) ?_
      show xEv (185, 101, [some (13, x0), some (0, x1), some (0, x2), some (0, x3), some (0, x4), some (0, x5), some (0, x6), none, none, none, none], [(0, (fQ_isBit x1 x6 M))], M) _
      refine xEvG_n xml xfetch 1 (y := (185, if (fQ_isBit x1 x6 M) = 0 then 263 else 104, [some (13, x0), some (0, x1), some (0, x2), some (0, x3), some (0, x4), some (0, x5), some (0, x6), none, none, none, none], [], M)) rfl trivial ?_
      refine xEvG_br xml xfetch (fun c_ => ?_) (fun c_ => ?_)
      · have h := xif_t c_ h
        refine xEvG_n xml xfetch 2 (y := (185, 84, [some (13, x0), some (0, x1), some (0, x2), some (0, x3), some (0, x4), some (0, x5), some (0, (xw32 (x6 + 1))), none, none, none, none], [], M)) rfl trivial ?_
        refine xEvG_mask xml xfetch [true, true, true, true, true, true, true, false, false, false, false] ?_
        exact (hQ_corridorBy_L84 k_61 hk_61 g) x0 x1 x2 x3 x4 x5 (xw32 (x6 + 1)) M _ h
      · have h := xif_f c_ h
        refine xEvG_n xml xfetch 2 (y := (185, 108, [some (13, x0), some (0, x1), some (0, x2), some (0, x3), some (0, x4), some (0, x5), some (0, x6), none, none, none, none], [(0, x6), (0, x5)], M)) rfl trivial ?_
        refine xEvG_call xml xfetch (q := (some (0, fQ_isBit x5 x6 M), M)) rfl (hQ_isBit x5 x6 M _ rfl) ?_
        show xEv (185, 111, [some (13, x0), some (0, x1), some (0, x2), some (0, x3), some (0, x4), some (0, x5), some (0, x6), none, none, none, none], [(0, (fQ_isBit x5 x6 M))], M) _
        refine xEvG_n xml xfetch 1 (y := (185, if (fQ_isBit x5 x6 M) = 0 then 114 else 263, [some (13, x0), some (0, x1), some (0, x2), some (0, x3), some (0, x4), some (0, x5), some (0, x6), none, none, none, none], [], M)) rfl trivial ?_
        refine xEvG_br xml xfetch (fun c_ => ?_) (fun c_ => ?_)
        · have h := xif_t c_ h
          refine xEvG_n xml xfetch 4 (y := (185, 120, [some (13, x0), some (0, x1), some (0, x2), some (0, x3), some (0, x4), some (0, x5), some (0, x6), none, none, none, none], [(0, x5), (0, 0), (0, x6), (13, x0)], M)) rfl trivial ?_
          obtain ⟨v3, e_, h⟩ := xB_t h
          refine xEvG_call xml xfetch (q := (some (0, v3), M)) rfl (hQ_isIn x0 x6 0 x5 M _ e_) ?_
          show xEv (185, 123, [some (13, x0), some (0, x1), some (0, x2), some (0, x3), some (0, x4), some (0, x5), some (0, x6), none, none, none, none], [(0, v3)], M) _
          refine xEvG_n xml xfetch 1 (y := (185, if v3 = 0 then 263 else 126, [some (13, x0), some (0, x1), some (0, x2), some (0, x3), some (0, x4), some (0, x5), some (0, x6), none, none, none, none], [], M)) rfl trivial ?_
          refine xEvG_br xml xfetch (fun c_ => ?_) (fun c_ => ?_)
          · have h := xif_t c_ h
            refine xEvG_n xml xfetch 2 (y := (185, 84, [some (13, x0), some (0, x1), some (0, x2), some (0, x3), some (0, x4), some (0, x5), some (0, (xw32 (x6 + 1))), none, none, none, none], [], M)) rfl trivial ?_
            refine xEvG_mask xml xfetch [true, true, true, true, true, true, true, false, false, false, false] ?_
            exact (hQ_corridorBy_L84 k_61 hk_61 g) x0 x1 x2 x3 x4 x5 (xw32 (x6 + 1)) M _ h
          · have h := xif_f c_ h
            refine xEvG_n xml xfetch 4 (y := (185, 132, [some (13, x0), some (0, x1), some (0, x2), some (0, x3), some (0, x4), some (0, x5), some (0, x6), none, none, none, none], [(0, x5), (0, 1), (0, x6), (13, x0)], M)) rfl trivial ?_
            obtain ⟨v4, e_, h⟩ := xB_t h
            refine xEvG_call xml xfetch (q := (some (0, v4), M)) rfl (hQ_isIn x0 x6 1 x5 M _ e_) ?_
            show xEv (185, 135, [some (13, x0), some (0, x1), some (0, x2), some (0, x3), some (0, x4), some (0, x5), some (0, x6), none, none, none, none], [(0, v4)], M) _
            refine xEvG_n xml xfetch 1 (y := (185, if v4 = 0 then 138 else 141, [some (13, x0), some (0, x1), some (0, x2), some (0, x3), some (0, x4), some (0, x5), some (0, x6), none, none, none, none], [], M)) rfl trivial ?_
            refine xEvG_br xml xfetch (fun c_ => ?_) (fun c_ => ?_)
            · have h := xif_t c_ h
              refine xEvG_n xml xfetch 3 (y := (185, 84, [some (13, x0), some (0, x1), some (0, x2), some (0, x3), some (0, x4), some (0, x5), some (0, (xw32 (x6 + 1))), none, none, none, none], [], M)) rfl trivial ?_
              refine xEvG_mask xml xfetch [true, true, true, true, true, true, true, false, false, false, false] ?_
              exact (hQ_corridorBy_L84 k_61 hk_61 g) x0 x1 x2 x3 x4 x5 (xw32 (x6 + 1)) M _ h
            · have h := xif_f c_ h
              refine xEvG_n xml xfetch 4 (y := (185, 147, [some (13, x0), some (0, x1), some (0, x2), some (0, x3), some (0, x4), some (0, x5), some (0, x6), none, none, none, none], [(0, x4), (0, 0), (0, x6), (13, x0)], M)) rfl trivial ?_
              obtain ⟨v5, e_, h⟩ := xB_t h
              refine xEvG_call xml xfetch (q := (some (0, v5), M)) rfl (hQ_pointsOf x0 x6 0 x4 M _ e_) ?_
              show xEv (185, 150, [some (13, x0), some (0, x1), some (0, x2), some (0, x3), some (0, x4), some (0, x5), some (0, x6), none, none, none, none], [(0, v5)], M) _
              refine xEvG_n xml xfetch 5 (y := (185, 158, [some (13, x0), some (0, x1), some (0, x2), some (0, x3), some (0, x4), some (0, x5), some (0, x6), some (0, v5), none, none, none], [(0, x4), (0, 1), (0, x6), (13, x0)], M)) rfl trivial ?_
              obtain ⟨v6, e_, h⟩ := xB_t h
              refine xEvG_call xml xfetch (q := (some (0, v6), M)) rfl (hQ_pointsOf x0 x6 1 x4 M _ e_) ?_
              show xEv (185, 161, [some (13, x0), some (0, x1), some (0, x2), some (0, x3), some (0, x4), some (0, x5), some (0, x6), some (0, v5), none, none, none], [(0, v6)], M) _
              refine xEvG_n xml xfetch 4 (y := (185, if v5 < 1000000 then 170 else 263, [some (13, x0), some (0, x1), some (0, x2), some (0, x3), some (0, x4), some (0, x5), some (0, x6), some (0, v5), some (0, v6), none, none], [], M)) rfl trivial ?_
              refine xEvG_br xml xfetch (fun c_ => ?_) (fun c_ => ?_)
              · have h := xif_t c_ h
                refine xEvG_n xml xfetch 3 (y := (185, if v6 < 1000000 then 180 else 177, [some (13, x0), some (0, x1), some (0, x2), some (0, x3), some (0, x4), some (0, x5), some (0, x6), some (0, v5), some (0, v6), none, none], [], M)) rfl trivial ?_
                refine xEvG_br xml xfetch (fun c_ => ?_) (fun c_ => ?_)
                · have h := xif_t c_ h
                  have a0_ := (xA_t h).1
                  have h := (xA_t h).2
                  refine xEvG_n xml xfetch 6 (y := (185, if x2 = 0 then 215 else 191, [some (13, x0), some (0, x1), some (0, x2), some (0, x3), some (0, x4), some (0, x5), some (0, x6), some (0, v5), some (0, v6), none, none], [(0, (M (x0 + 19) x5))], M)) rfl ⟨a0_, trivial⟩ ?_
                  refine xEvG_br xml xfetch (fun c_ => ?_) (fun c_ => ?_)
                  · have h := xif_t c_ h
                    refine xEvG_n xml xfetch 3 (y := (185, 220, [some (13, x0), some (0, x1), some (0, x2), some (0, x3), some (0, x4), some (0, x5), some (0, x6), some (0, v5), some (0, v6), none, none], [(0, (xw32 (v5 + v6))), (0, (M (x0 + 19) x5))], M)) rfl trivial ?_
                    refine xEvG_mask xml xfetch [true, true, true, true, true, true, true, false, false, false, false] ?_
                    exact hQ_corridorBy_L220 (fQ_corridorBy_L84 k_61 g) (hQ_corridorBy_L84 k_61 hk_61 g) x0 x1 x2 x3 x4 x5 x6 (xw32 (v5 + v6)) (M (x0 + 19) x5) M _ h
                  · have h := xif_f c_ h
                    refine xEvG_n xml xfetch 2 (y := (185, if 0 < v5 then 196 else 200, [some (13, x0), some (0, x1), some (0, x2), some (0, x3), some (0, x4), some (0, x5), some (0, x6), some (0, v5), some (0, v6), none, none], [(0, (M (x0 + 19) x5))], M)) rfl trivial ?_
                    refine xEvG_br xml xfetch (fun c_ => ?_) (fun c_ => ?_)
                    · have h := xif_t c_ h
                      refine xEvG_n xml xfetch 2 (y := (185, 201, [some (13, x0), some (0, x1), some (0, x2), some (0, x3), some (0, x4), some (0, x5), some (0, x6), some (0, v5), some (0, v6), none, none], [(0, 1), (0, (M (x0 + 19) x5))], M)) rfl trivial ?_
                      refine xEvG_mask xml xfetch [true, true, true, true, true, true, true, false, true, false, false] ?_
                      exact hQ_corridorBy_L201 (fQ_corridorBy_L84 k_61 g) (hQ_corridorBy_L84 k_61 hk_61 g) x0 x1 x2 x3 x4 x5 x6 v6 1 (M (x0 + 19) x5) M _ h
                    · have h := xif_f c_ h
                      refine xEvG_n xml xfetch 1 (y := (185, 201, [some (13, x0), some (0, x1), some (0, x2), some (0, x3), some (0, x4), some (0, x5), some (0, x6), some (0, v5), some (0, v6), none, none], [(0, 0), (0, (M (x0 + 19) x5))], M)) rfl trivial ?_
                      refine xEvG_mask xml xfetch [true, true, true, true, true, true, true, false, true, false, false] ?_
                      exact hQ_corridorBy_L201 (fQ_corridorBy_L84 k_61 g) (hQ_corridorBy_L84 k_61 hk_61 g) x0 x1 x2 x3 x4 x5 x6 v6 0 (M (x0 + 19) x5) M _ h
                · have h := xif_f c_ h
                  refine xEvG_n xml xfetch 3 (y := (185, 84, [some (13, x0), some (0, x1), some (0, x2), some (0, x3), some (0, x4), some (0, x5), some (0, (xw32 (x6 + 1))), some (0, v5), some (0, v6), none, none], [], M)) rfl trivial ?_
                  refine xEvG_mask xml xfetch [true, true, true, true, true, true, true, false, false, false, false] ?_
                  exact (hQ_corridorBy_L84 k_61 hk_61 g) x0 x1 x2 x3 x4 x5 (xw32 (x6 + 1)) M _ h
              · have h := xif_f c_ h
                refine xEvG_n xml xfetch 2 (y := (185, 84, [some (13, x0), some (0, x1), some (0, x2), some (0, x3), some (0, x4), some (0, x5), some (0, (xw32 (x6 + 1))), some (0, v5), some (0, v6), none, none], [], M)) rfl trivial ?_
                refine xEvG_mask xml xfetch [true, true, true, true, true, true, true, false, false, false, false] ?_
                exact (hQ_corridorBy_L84 k_61 hk_61 g) x0 x1 x2 x3 x4 x5 (xw32 (x6 + 1)) M _ h
        · have h := xif_f c_ h
          refine xEvG_n xml xfetch 2 (y := (185, 84, [some (13, x0), some (0, x1), some (0, x2), some (0, x3), some (0, x4), some (0, x5), some (0, (xw32 (x6 + 1))), none, none, none, none], [], M)) rfl trivial ?_
          refine xEvG_mask xml xfetch [true, true, true, true, true, true, true, false, false, false, false] ?_
          exact (hQ_corridorBy_L84 k_61 hk_61 g) x0 x1 x2 x3 x4 x5 (xw32 (x6 + 1)) M _ h
    · have h := xif_f c_ h
      refine xEvG_n xml xfetch 2 (y := (185, 61, [some (13, x0), some (0, x1), some (0, x2), some (0, x3), some (0, x4), some (0, (xw32 (x5 + (-1)))), some (0, x6), none, none, none, none], [], M)) rfl trivial ?_
      refine xEvG_mask xml xfetch [true, true, true, true, true, true, false, false, false, false, false] ?_
      exact hk_61 x0 x1 x2 x3 x4 (xw32 (x5 + (-1))) M _ h
def fQ_corridorBy_L61 (k_45 : Int → Int → Int → Int → Int → xM → Option (Int × xM)) : Nat → Int → Int → Int → Int → Int → Int → xM → Option (Int × xM)
  | 0, _, _, _, _, _, _, _ => none
  | g + 1, x0, x1, x2, x3, x4, x5, M => if x5 < 0 then (k_45 x0 x1 x2 x3 (xw32 (x4 + 1)) M) else (xA (0 ≤ x5 ∧ x5 < 512) (if (M (x0 + 19) x5) = 1000000 then ((fQ_corridorBy_L61 k_45 g) x0 x1 x2 x3 x4 (xw32 (x5 + (-1))) M) else (fQ_corridorBy_L84 (fQ_corridorBy_L61 k_45 g) 20001 x0 x1 x2 x3 x4 x5 0 M)))
theorem hQ_corridorBy_L61 (k_45 : Int → Int → Int → Int → Int → xM → Option (Int × xM)) (hk_45 : ∀ (x0 x1 x2 x3 x4 : Int) (M : xM) (r : Int × xM), k_45 x0 x1 x2 x3 x4 M = some r → xEv (185, 45, [some (13, x0), some (0, x1), some (0, x2), some (0, x3), some (0, x4), none, none, none, none, none, none], [], M) (some (0, r.1), r.2)) : ∀ (g : Nat) (x0 x1 x2 x3 x4 x5 : Int) (M : xM) (r : Int × xM) (h : fQ_corridorBy_L61 k_45 g x0 x1 x2 x3 x4 x5 M = some r), xEv (185, 61, [some (13, x0), some (0, x1), some (0, x2), some (0, x3), some (0, x4), some (0, x5), none, none, none, none, none], [], M) (some (0, r.1), r.2)
  | 0, _, _, _, _, _, _, _, _, h => by cases h
  | g + 1, x0, x1, x2, x3, x4, x5, M, r, h => by
    unfold fQ_corridorBy_L61 at h
    refine xEvG_n xml xfetch 2 (y := (185, if x5 < 0 then 275 else 66, [some (13, x0), some (0, x1), some (0, x2), some (0, x3), some (0, x4), some (0, x5), none, none, none, none, none], [], M)) rfl trivial ?_
    refine xEvG_br xml xfetch (fun c_ => ?_) (fun c_ => ?_)
    · have h := xif_t c_ h
      refine xEvG_n xml xfetch 2 (y := (185, 45, [some (13, x0), some (0, x1), some (0, x2), some (0, x3), some (0, (xw32 (x4 + 1))), some (0, x5), none, none, none, none, none], [], M)) rfl trivial ?_
      refine xEvG_mask xml xfetch [true, true, true, true, true, false, false, false, false, false, false] ?_
      exact hk_45 x0 x1 x2 x3 (xw32 (x4 + 1)) M _ h
    · have h := xif_f c_ h
      have a0_ := (xA_t h).1
      have h := (xA_t h).2
      refine xEvG_n xml xfetch 6 (y := (185, if (M (x0 + 19) x5) = 1000000 then 78 else 81, [some (13, x0), some (0, x1), some (0, x2), some (0, x3), some (0, x4), some (0, x5), none, none, none, none, none], [], M)) rfl ⟨a0_, trivial⟩ ?_
      refine xEvG_br xml xfetch (fun c_ => ?_) (fun c_ => ?_)
      · have h := xif_t c_ h
        refine xEvG_n xml xfetch 3 (y := (185, 61, [some (13, x0), some (0, x1), some (0, x2), some (0, x3), some (0, x4), some (0, (xw32 (x5 + (-1)))), none, none, none, none, none], [], M)) rfl trivial ?_
        refine xEvG_mask xml xfetch [true, true, true, true, true, true, false, false, false, false, false] ?_
        exact (hQ_corridorBy_L61 k_45 hk_45 g) x0 x1 x2 x3 x4 (xw32 (x5 + (-1))) M _ h
      · have h := xif_f c_ h
        refine xEvG_n xml xfetch 2 (y := (185, 84, [some (13, x0), some (0, x1), some (0, x2), some (0, x3), some (0, x4), some (0, x5), some (0, 0), none, none, none, none], [], M)) rfl trivial ?_
        refine xEvG_mask xml xfetch [true, true, true, true, true, true, true, false, false, false, false] ?_
        exact hQ_corridorBy_L84 (fQ_corridorBy_L61 k_45 g) (hQ_corridorBy_L61 k_45 hk_45 g) 20001 x0 x1 x2 x3 x4 x5 0 M _ h
def fQ_corridorBy_L45 : Nat → Int → Int → Int → Int → Int → xM → Option (Int × xM)
  | 0, _, _, _, _, _, _ => none
  | g + 1, x0, x1, x2, x3, x4, M => if x4 < (M (x0 + 7) 1) then (fQ_corridorBy_L61 (fQ_corridorBy_L45 g) 20001 x0 x1 x2 x3 x4 (xw32 (x3 - 1)) M) else (xA (0 ≤ x1 ∧ x1 < 512) (if (M (x0 + 19) x1) = 1000000 then (some ((-1), M)) else (xA (0 ≤ x1 ∧ x1 < 512) (some ((M (x0 + 19) x1), M)))))
theorem hQ_corridorBy_L45 : ∀ (g : Nat) (x0 x1 x2 x3 x4 : Int) (M : xM) (r : Int × xM) (h : fQ_corridorBy_L45 g x0 x1 x2 x3 x4 M = some r), xEv (185, 45, [some (13, x0), some (0, x1), some (0, x2), some (0, x3), some (0, x4), none, none, none, none, none, none], [], M) (some (0, r.1), r.2)
  | 0, _, _, _, _, _, _, _, h => by cases h
  | g + 1, x0, x1, x2, x3, x4, M, r, h => by
    unfold fQ_corridorBy_L45 at h
    refine xEvG_n xml xfetch 6 (y := (185, if x4 < (M (x0 + 7) 1) then 56 else 281, [some (13, x0), some (0, x1), some (0, x2), some (0, x3), some (0, x4), none, none, none, none, none, none], [], M)) rfl ⟨by decide, trivial⟩ ?_
    refine xEvG_br xml xfetch (fun c_ => ?_) (fun c_ => ?_)
    · have h := xif_t c_ h
      refine xEvG_n xml xfetch 4 (y := (185, 61, [some (13, x0), some (0, x1), some (0, x2), some (0, x3), some (0, x4), some (0, (xw32 (x3 - 1))), none, none, none, none, none], [], M)) rfl trivial ?_
      refine xEvG_mask xml xfetch [true, true, true, true, true, true, false, false, false, false, false] ?_
      exact hQ_corridorBy_L61 (fQ_corridorBy_L45 g) (hQ_corridorBy_L45 g) 20001 x0 x1 x2 x3 x4 (xw32 (x3 - 1)) M _ h
    · have h := xif_f c_ h
      have a0_ := (xA_t h).1
      have h := (xA_t h).2
      refine xEvG_n xml xfetch 6 (y := (185, if (M (x0 + 19) x1) = 1000000 then 292 else 296, [some (13, x0), some (0, x1), some (0, x2), some (0, x3), some (0, x4), none, none, none, none, none, none], [], M)) rfl ⟨a0_, trivial⟩ ?_
      refine xEvG_br xml xfetch (fun c_ => ?_) (fun c_ => ?_)
      · have h := xif_t c_ h
        refine xEvG_n xml xfetch 2 (y := (185, 302, [some (13, x0), some (0, x1), some (0, x2), some (0, x3), some (0, x4), none, none, none, none, none, none], [(0, (-1))], M)) rfl trivial ?_
        cases h
        exact xEvG_ret xml xfetch rfl
      · have h := xif_f c_ h
        have a0_ := (xA_t h).1
        have h := (xA_t h).2
        refine xEvG_n xml xfetch 4 (y := (185, 302, [some (13, x0), some (0, x1), some (0, x2), some (0, x3), some (0, x4), none, none, none, none, none, none], [(0, (M (x0 + 19) x1))], M)) rfl ⟨a0_, trivial⟩ ?_
        cases h
        exact xEvG_ret xml xfetch rfl
def fQ_corridorBy_L12 : Nat → Int → Int → Int → Int → Int → xM → Option (Int × xM)
  | 0, _, _, _, _, _, _ => none
  | g + 1, x0, x1, x2, x3, x4, M => if x4 < x3 then (if x4 = 0 then (xA (0 ≤ x4 ∧ x4 < 512) ((fQ_corridorBy_L12 g) x0 x1 x2 x3 (xw32 (x4 + 1)) (xwr M (x0 + 19) x4 0))) else (xA (0 ≤ x4 ∧ x4 < 512) ((fQ_corridorBy_L12 g) x0 x1 x2 x3 (xw32 (x4 + 1)) (xwr M (x0 + 19) x4 1000000)))) else (fQ_corridorBy_L45 20001 x0 x1 x2 x3 0 M)
theorem hQ_corridorBy_L12 : ∀ (g : Nat) (x0 x1 x2 x3 x4 : Int) (M : xM) (r : Int × xM) (h : fQ_corridorBy_L12 g x0 x1 x2 x3 x4 M = some r), xEv (185, 12, [some (13, x0), some (0, x1), some (0, x2), some (0, x3), some (0, x4), none, none, none, none, none, none], [], M) (some (0, r.1), r.2)
  | 0, _, _, _, _, _, _, _, h => by cases h
  | g + 1, x0, x1, x2, x3, x4, M, r, h => by
    unfold fQ_corridorBy_L12 at h
    refine xEvG_n xml xfetch 3 (y := (185, if x4 < x3 then 18 else 42, [some (13, x0), some (0, x1), some (0, x2), some (0, x3), some (0, x4), none, none, none, none, none, none], [], M)) rfl trivial ?_
    refine xEvG_br xml xfetch (fun c_ => ?_) (fun c_ => ?_)
    · have h := xif_t c_ h
      refine xEvG_n xml xfetch 5 (y := (185, if x4 = 0 then 29 else 33, [some (13, x0), some (0, x1), some (0, x2), some (0, x3), some (0, x4), none, none, none, none, none, none], [(0, x4), (28, (x0 + 19))], M)) rfl trivial ?_
      refine xEvG_br xml xfetch (fun c_ => ?_) (fun c_ => ?_)
      · have h := xif_t c_ h
        have a0_ := (xA_t h).1
        have h := (xA_t h).2
        refine xEvG_n xml xfetch 5 (y := (185, 12, [some (13, x0), some (0, x1), some (0, x2), some (0, x3), some (0, (xw32 (x4 + 1))), none, none, none, none, none, none], [], (xwr M (x0 + 19) x4 0))) rfl ⟨a0_, trivial⟩ ?_
        refine xEvG_mask xml xfetch [true, true, true, true, true, false, false, false, false, false, false] ?_
        exact (hQ_corridorBy_L12 g) x0 x1 x2 x3 (xw32 (x4 + 1)) (xwr M (x0 + 19) x4 0) _ h
      · have h := xif_f c_ h
        have a0_ := (xA_t h).1
        have h := (xA_t h).2
        refine xEvG_n xml xfetch 4 (y := (185, 12, [some (13, x0), some (0, x1), some (0, x2), some (0, x3), some (0, (xw32 (x4 + 1))), none, none, none, none, none, none], [], (xwr M (x0 + 19) x4 1000000))) rfl ⟨a0_, trivial⟩ ?_
        refine xEvG_mask xml xfetch [true, true, true, true, true, false, false, false, false, false, false] ?_
        exact (hQ_corridorBy_L12 g) x0 x1 x2 x3 (xw32 (x4 + 1)) (xwr M (x0 + 19) x4 1000000) _ h
    · have h := xif_f c_ h
      refine xEvG_n xml xfetch 2 (y := (185, 45, [some (13, x0), some (0, x1), some (0, x2), some (0, x3), some (0, 0), none, none, none, none, none, none], [], M)) rfl trivial ?_
      refine xEvG_mask xml xfetch [true, true, true, true, true, false, false, false, false, false, false] ?_
      exact hQ_corridorBy_L45 20001 x0 x1 x2 x3 0 M _ h
/-- ConsentDoorsModel.corridorBy(IZ)I -/
def fQ_corridorBy (a0 a1 a2 : Int) (M : xM) : Option (Int × xM) := fQ_corridorBy_L12 20001 a0 a1 a2 (xshl 1 (M (a0 + 7) 0)) 0 M
theorem hQ_corridorBy (a0 a1 a2 : Int) (M : xM) (r : Int × xM) (h : fQ_corridorBy a0 a1 a2 M = some r) : xEv (185, 0, [some (13, a0), some (0, a1), some (0, a2), none, none, none, none, none, none, none, none], [], M) (some (0, r.1), r.2) := by
  unfold fQ_corridorBy at h
  refine xEvG_n xml xfetch 9 (y := (185, 12, [some (13, a0), some (0, a1), some (0, a2), some (0, (xshl 1 (M (a0 + 7) 0))), some (0, 0), none, none, none, none, none, none], [], M)) rfl ⟨by decide, trivial⟩ ?_
  refine xEvG_mask xml xfetch [true, true, true, true, true, false, false, false, false, false, false] ?_
  exact hQ_corridorBy_L12 20001 a0 a1 a2 (xshl 1 (M (a0 + 7) 0)) 0 M _ h

end
