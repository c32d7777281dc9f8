/-! the methods as functions, each with its proof (printed by wip/tools/fgen.py) -/
noncomputable section
/-- ConsentDoorsModel.corridor(II)I -/
def fQ_corridor (a0 a1 a2 : Int) (M : xM) : Option (Int × xM) := xB (fQ_corridorOf a0 a1 a2 (xwr M a0 0 0)) (fun v1 => if v1 = (-1) then (some ((-2), (xwr M a0 0 0))) else (xB (fQ_corridorBy a0 v1 0 (fQ_plainly a0 (xwr M a0 0 0))) (fun q_ => match q_ with | (v3, m3) => some (v3, m3))))
theorem hQ_corridor (a0 a1 a2 : Int) (M : xM) (r : Int × xM) (h : fQ_corridor a0 a1 a2 M = some r) : xEv (187, 0, [some (13, a0), some (0, a1), some (0, a2), none], [], M) (some (0, r.1), r.2) := by
  unfold fQ_corridor at h
  refine xEvG_n xml xfetch 6 (y := (187, 8, [some (13, a0), some (0, a1), some (0, a2), none], [(0, a2), (0, a1), (13, a0)], (xwr M a0 0 0))) rfl trivial ?_
  obtain ⟨v1, e_, h⟩ := xB_t h
  refine xEvG_call xml xfetch (q := (some (0, v1), (xwr M a0 0 0))) rfl (hQ_corridorOf a0 a1 a2 (xwr M a0 0 0) _ e_) ?_
  show xEv (187, 11, [some (13, a0), some (0, a1), some (0, a2), none], [(0, v1)], (xwr M a0 0 0)) _
  refine xEvG_n xml xfetch 4 (y := (187, if v1 = (-1) then 17 else 20, [some (13, a0), some (0, a1), some (0, a2), some (0, v1)], [], (xwr M a0 0 0))) rfl trivial ?_
  refine xEvG_br xml xfetch (fun c_ => ?_) (fun c_ => ?_)
  · have h := xif_t c_ h
    refine xEvG_n xml xfetch 1 (y := (187, 19, [some (13, a0), some (0, a1), some (0, a2), some (0, v1)], [(0, (-2))], (xwr M a0 0 0))) rfl trivial ?_
    cases h
    exact xEvG_ret xml xfetch rfl
  · have h := xif_f c_ h
    refine xEvG_n xml xfetch 1 (y := (187, 21, [some (13, a0), some (0, a1), some (0, a2), some (0, v1)], [(13, a0)], (xwr M a0 0 0))) rfl trivial ?_
    refine xEvG_call xml xfetch (q := (none, fQ_plainly a0 (xwr M a0 0 0))) rfl (hQ_plainly a0 (xwr M a0 0 0) _ rfl) ?_
    show xEv (187, 24, [some (13, a0), some (0, a1), some (0, a2), some (0, v1)], [], (fQ_plainly a0 (xwr M a0 0 0))) _
    refine xEvG_n xml xfetch 3 (y := (187, 27, [some (13, a0), some (0, a1), some (0, a2), some (0, v1)], [(0, 0), (0, v1), (13, a0)], (fQ_plainly a0 (xwr M a0 0 0)))) rfl trivial ?_
    obtain ⟨⟨v3, m3⟩, e_, h⟩ := xB_t h
    refine xEvG_call xml xfetch (q := (some (0, v3), m3)) rfl (hQ_corridorBy a0 v1 0 (fQ_plainly a0 (xwr M a0 0 0)) _ e_) ?_
    show xEv (187, 30, [some (13, a0), some (0, a1), some (0, a2), some (0, v1)], [(0, v3)], m3) _
    cases h
    exact xEvG_ret xml xfetch rfl

/-- ConsentDoorsModel.friends(II)I -/
def fQ_friends (a0 a1 a2 : Int) (M : xM) : Option (Int × xM) := xB (fQ_corridorOf a0 a1 a2 (xwr M a0 0 0)) (fun v1 => if v1 = (-1) then (some ((-2), (xwr M a0 0 0))) else (xB (fQ_corridorBy a0 v1 1 (fQ_plainly a0 (xwr M a0 0 0))) (fun q_ => match q_ with | (v3, m3) => some (v3, m3))))
theorem hQ_friends (a0 a1 a2 : Int) (M : xM) (r : Int × xM) (h : fQ_friends a0 a1 a2 M = some r) : xEv (188, 0, [some (13, a0), some (0, a1), some (0, a2), none], [], M) (some (0, r.1), r.2) := by
  unfold fQ_friends at h
  refine xEvG_n xml xfetch 6 (y := (188, 8, [some (13, a0), some (0, a1), some (0, a2), none], [(0, a2), (0, a1), (13, a0)], (xwr M a0 0 0))) rfl trivial ?_
  obtain ⟨v1, e_, h⟩ := xB_t h
  refine xEvG_call xml xfetch (q := (some (0, v1), (xwr M a0 0 0))) rfl (hQ_corridorOf a0 a1 a2 (xwr M a0 0 0) _ e_) ?_
  show xEv (188, 11, [some (13, a0), some (0, a1), some (0, a2), none], [(0, v1)], (xwr M a0 0 0)) _
  refine xEvG_n xml xfetch 4 (y := (188, if v1 = (-1) then 17 else 20, [some (13, a0), some (0, a1), some (0, a2), some (0, v1)], [], (xwr M a0 0 0))) rfl trivial ?_
  refine xEvG_br xml xfetch (fun c_ => ?_) (fun c_ => ?_)
  · have h := xif_t c_ h
    refine xEvG_n xml xfetch 1 (y := (188, 19, [some (13, a0), some (0, a1), some (0, a2), some (0, v1)], [(0, (-2))], (xwr M a0 0 0))) rfl trivial ?_
    cases h
    exact xEvG_ret xml xfetch rfl
  · have h := xif_f c_ h
    refine xEvG_n xml xfetch 1 (y := (188, 21, [some (13, a0), some (0, a1), some (0, a2), some (0, v1)], [(13, a0)], (xwr M a0 0 0))) rfl trivial ?_
    refine xEvG_call xml xfetch (q := (none, fQ_plainly a0 (xwr M a0 0 0))) rfl (hQ_plainly a0 (xwr M a0 0 0) _ rfl) ?_
    show xEv (188, 24, [some (13, a0), some (0, a1), some (0, a2), some (0, v1)], [], (fQ_plainly a0 (xwr M a0 0 0))) _
    refine xEvG_n xml xfetch 3 (y := (188, 27, [some (13, a0), some (0, a1), some (0, a2), some (0, v1)], [(0, 1), (0, v1), (13, a0)], (fQ_plainly a0 (xwr M a0 0 0)))) rfl trivial ?_
    obtain ⟨⟨v3, m3⟩, e_, h⟩ := xB_t h
    refine xEvG_call xml xfetch (q := (some (0, v3), m3)) rfl (hQ_corridorBy a0 v1 1 (fQ_plainly a0 (xwr M a0 0 0)) _ e_) ?_
    show xEv (188, 30, [some (13, a0), some (0, a1), some (0, a2), some (0, v1)], [(0, v3)], m3) _
    cases h
    exact xEvG_ret xml xfetch rfl

def fQ_mends_L42 : Nat → Int → Int → Int → Int → Int → xM → Option (Int × xM)
  | 0, _, _, _, _, _, _ => none
  | g + 1, x0, x1, x2, x3, x4, M => if x4 < (xshl 1 (M (x0 + 7) 0)) then (if (xand x4 (xxor (M (x0 + 7) 4) (-1))) = 0 then (if x3 = (-1) then (xB (fQ_mostNow x0 (xwr (fQ_plainly x0 M) x0 26 x4)) (fun q_ => match q_ with | (v5, m5) => if v5 < x1 then ((fQ_mends_L42 g) x0 x1 x2 x3 (xw32 (x4 + 1)) m5) else ((fQ_mends_L42 g) x0 x1 x2 x4 (xw32 (x4 + 1)) m5))) else (xB (fQ_sizeOf x4 M) (fun v6 => xB (fQ_sizeOf x3 M) (fun v7 => if v6 < v7 then (xB (fQ_mostNow x0 (xwr (fQ_plainly x0 M) x0 26 x4)) (fun q_ => match q_ with | (v9, m9) => if v9 < x1 then ((fQ_mends_L42 g) x0 x1 x2 x3 (xw32 (x4 + 1)) m9) else ((fQ_mends_L42 g) x0 x1 x2 x4 (xw32 (x4 + 1)) m9))) else ((fQ_mends_L42 g) x0 x1 x2 x3 (xw32 (x4 + 1)) M))))) else ((fQ_mends_L42 g) x0 x1 x2 x3 (xw32 (x4 + 1)) M)) else (if x3 = (-1) then (some (x3, M)) else (if x2 = 1 then (some (x3, M)) else (xB (fQ_sizeOf x3 M) (fun v10 => some (v10, M)))))
theorem hQ_mends_L42 : ∀ (g : Nat) (x0 x1 x2 x3 x4 : Int) (M : xM) (r : Int × xM) (h : fQ_mends_L42 g x0 x1 x2 x3 x4 M = some r), xEv (189, 42, [some (13, x0), some (0, x1), some (0, x2), some (0, x3), some (0, x4)], [], M) (some (0, r.1), r.2)
  | 0, _, _, _, _, _, _, _, h => by cases h
  | g + 1, x0, x1, x2, x3, x4, M, r, h => by
    unfold fQ_mends_L42 at h
    refine xEvG_n xml xfetch 8 (y := (189, if x4 < (xshl 1 (M (x0 + 7) 0)) then 55 else 116, [some (13, x0), some (0, x1), some (0, x2), some (0, x3), some (0, x4)], [], M)) rfl ⟨by decide, trivial⟩ ?_
    refine xEvG_br xml xfetch (fun c_ => ?_) (fun c_ => ?_)
    · have h := xif_t c_ h
      refine xEvG_n xml xfetch 9 (y := (189, if (xand x4 (xxor (M (x0 + 7) 4) (-1))) = 0 then 69 else 110, [some (13, x0), some (0, x1), some (0, x2), some (0, x3), some (0, x4)], [], M)) rfl ⟨by decide, trivial⟩ ?_
      refine xEvG_br xml xfetch (fun c_ => ?_) (fun c_ => ?_)
      · have h := xif_t c_ h
        refine xEvG_n xml xfetch 3 (y := (189, if x3 = (-1) then 89 else 74, [some (13, x0), some (0, x1), some (0, x2), some (0, x3), some (0, x4)], [], M)) rfl trivial ?_
        refine xEvG_br xml xfetch (fun c_ => ?_) (fun c_ => ?_)
        · have h := xif_t c_ h
          refine xEvG_n xml xfetch 1 (y := (189, 90, [some (13, x0), some (0, x1), some (0, x2), some (0, x3), some (0, x4)], [(13, x0)], M)) rfl trivial ?_
          refine xEvG_call xml xfetch (q := (none, fQ_plainly x0 M)) rfl (hQ_plainly x0 M _ rfl) ?_
          show xEv (189, 93, [some (13, x0), some (0, x1), some (0, x2), some (0, x3), some (0, x4)], [], (fQ_plainly x0 M)) _
          refine xEvG_n xml xfetch 4 (y := (189, 100, [some (13, x0), some (0, x1), some (0, x2), some (0, x3), some (0, x4)], [(13, x0)], (xwr (fQ_plainly x0 M) x0 26 x4))) rfl trivial ?_
          obtain ⟨⟨v5, m5⟩, e_, h⟩ := xB_t h
          refine xEvG_call xml xfetch (q := (some (0, v5), m5)) rfl (hQ_mostNow x0 (xwr (fQ_plainly x0 M) x0 26 x4) _ e_) ?_
          show xEv (189, 103, [some (13, x0), some (0, x1), some (0, x2), some (0, x3), some (0, x4)], [(0, v5)], m5) _
          refine xEvG_n xml xfetch 2 (y := (189, if v5 < x1 then 110 else 107, [some (13, x0), some (0, x1), some (0, x2), some (0, x3), some (0, x4)], [], m5)) rfl trivial ?_
          refine xEvG_br xml xfetch (fun c_ => ?_) (fun c_ => ?_)
          · have h := xif_t c_ h
            refine xEvG_n xml xfetch 2 (y := (189, 42, [some (13, x0), some (0, x1), some (0, x2), some (0, x3), some (0, (xw32 (x4 + 1)))], [], m5)) rfl trivial ?_
            refine xEvG_mask xml xfetch [true, true, true, true, true] ?_
            exact (hQ_mends_L42 g) x0 x1 x2 x3 (xw32 (x4 + 1)) m5 _ h
          · have h := xif_f c_ h
            refine xEvG_n xml xfetch 4 (y := (189, 42, [some (13, x0), some (0, x1), some (0, x2), some (0, x4), some (0, (xw32 (x4 + 1)))], [], m5)) rfl trivial ?_
            refine xEvG_mask xml xfetch [true, true, true, true, true] ?_
            exact (hQ_mends_L42 g) x0 x1 x2 x4 (xw32 (x4 + 1)) m5 _ h
        · have h := xif_f c_ h
          refine xEvG_n xml xfetch 1 (y := (189, 76, [some (13, x0), some (0, x1), some (0, x2), some (0, x3), some (0, x4)], [(0, x4)], M)) rfl trivial ?_
          obtain ⟨v6, e_, h⟩ := xB_t h
          refine xEvG_call xml xfetch (q := (some (0, v6), M)) rfl (hQ_sizeOf x4 M _ e_) ?_
          show xEv (189, 79, [some (13, x0), some (0, x1), some (0, x2), some (0, x3), some (0, x4)], [(0, v6)], M) _
          refine xEvG_n xml xfetch 1 (y := (189, 80, [some (13, x0), some (0, x1), some (0, x2), some (0, x3), some (0, x4)], [(0, x3), (0, v6)], M)) rfl trivial ?_
          obtain ⟨v7, e_, h⟩ := xB_t h
          refine xEvG_call xml xfetch (q := (some (0, v7), M)) rfl (hQ_sizeOf x3 M _ e_) ?_
          show xEv (189, 83, [some (13, x0), some (0, x1), some (0, x2), some (0, x3), some (0, x4)], [(0, v7), (0, v6)], M) _
          refine xEvG_n xml xfetch 1 (y := (189, if v6 < v7 then 89 else 86, [some (13, x0), some (0, x1), some (0, x2), some (0, x3), some (0, x4)], [], M)) rfl trivial ?_
          refine xEvG_br xml xfetch (fun c_ => ?_) (fun c_ => ?_)
          · have h := xif_t c_ h
            refine xEvG_n xml xfetch 1 (y := (189, 90, [some (13, x0), some (0, x1), some (0, x2), some (0, x3), some (0, x4)], [(13, x0)], M)) rfl trivial ?_
            refine xEvG_call xml xfetch (q := (none, fQ_plainly x0 M)) rfl (hQ_plainly x0 M _ rfl) ?_
            show xEv (189, 93, [some (13, x0), some (0, x1), some (0, x2), some (0, x3), some (0, x4)], [], (fQ_plainly x0 M)) _
            refine xEvG_n xml xfetch 4 (y := (189, 100, [some (13, x0), some (0, x1), some (0, x2), some (0, x3), some (0, x4)], [(13, x0)], (xwr (fQ_plainly x0 M) x0 26 x4))) rfl trivial ?_
            obtain ⟨⟨v9, m9⟩, e_, h⟩ := xB_t h
            refine xEvG_call xml xfetch (q := (some (0, v9), m9)) rfl (hQ_mostNow x0 (xwr (fQ_plainly x0 M) x0 26 x4) _ e_) ?_
            show xEv (189, 103, [some (13, x0), some (0, x1), some (0, x2), some (0, x3), some (0, x4)], [(0, v9)], m9) _
            refine xEvG_n xml xfetch 2 (y := (189, if v9 < x1 then 110 else 107, [some (13, x0), some (0, x1), some (0, x2), some (0, x3), some (0, x4)], [], m9)) rfl trivial ?_
            refine xEvG_br xml xfetch (fun c_ => ?_) (fun c_ => ?_)
            · have h := xif_t c_ h
              refine xEvG_n xml xfetch 2 (y := (189, 42, [some (13, x0), some (0, x1), some (0, x2), some (0, x3), some (0, (xw32 (x4 + 1)))], [], m9)) rfl trivial ?_
              refine xEvG_mask xml xfetch [true, true, true, true, true] ?_
              exact (hQ_mends_L42 g) x0 x1 x2 x3 (xw32 (x4 + 1)) m9 _ h
            · have h := xif_f c_ h
              refine xEvG_n xml xfetch 4 (y := (189, 42, [some (13, x0), some (0, x1), some (0, x2), some (0, x4), some (0, (xw32 (x4 + 1)))], [], m9)) rfl trivial ?_
              refine xEvG_mask xml xfetch [true, true, true, true, true] ?_
              exact (hQ_mends_L42 g) x0 x1 x2 x4 (xw32 (x4 + 1)) m9 _ h
          · have h := xif_f c_ h
            refine xEvG_n xml xfetch 3 (y := (189, 42, [some (13, x0), some (0, x1), some (0, x2), some (0, x3), some (0, (xw32 (x4 + 1)))], [], M)) rfl trivial ?_
            refine xEvG_mask xml xfetch [true, true, true, true, true] ?_
            exact (hQ_mends_L42 g) x0 x1 x2 x3 (xw32 (x4 + 1)) M _ h
      · have h := xif_f c_ h
        refine xEvG_n xml xfetch 2 (y := (189, 42, [some (13, x0), some (0, x1), some (0, x2), some (0, x3), some (0, (xw32 (x4 + 1)))], [], M)) rfl trivial ?_
        refine xEvG_mask xml xfetch [true, true, true, true, true] ?_
        exact (hQ_mends_L42 g) x0 x1 x2 x3 (xw32 (x4 + 1)) M _ h
    · have h := xif_f c_ h
      refine xEvG_n xml xfetch 3 (y := (189, if x3 = (-1) then 126 else 121, [some (13, x0), some (0, x1), some (0, x2), some (0, x3), some (0, x4)], [], M)) rfl trivial ?_
      refine xEvG_br xml xfetch (fun c_ => ?_) (fun c_ => ?_)
      · have h := xif_t c_ h
        refine xEvG_n xml xfetch 2 (y := (189, 134, [some (13, x0), some (0, x1), some (0, x2), some (0, x3), some (0, x4)], [(0, x3)], M)) rfl trivial ?_
        cases h
        exact xEvG_ret xml xfetch rfl
      · have h := xif_f c_ h
        refine xEvG_n xml xfetch 3 (y := (189, if x2 = 1 then 126 else 130, [some (13, x0), some (0, x1), some (0, x2), some (0, x3), some (0, x4)], [], M)) rfl trivial ?_
        refine xEvG_br xml xfetch (fun c_ => ?_) (fun c_ => ?_)
        · have h := xif_t c_ h
          refine xEvG_n xml xfetch 2 (y := (189, 134, [some (13, x0), some (0, x1), some (0, x2), some (0, x3), some (0, x4)], [(0, x3)], M)) rfl trivial ?_
          cases h
          exact xEvG_ret xml xfetch rfl
        · have h := xif_f c_ h
          refine xEvG_n xml xfetch 1 (y := (189, 131, [some (13, x0), some (0, x1), some (0, x2), some (0, x3), some (0, x4)], [(0, x3)], M)) rfl trivial ?_
          obtain ⟨v10, e_, h⟩ := xB_t h
          refine xEvG_call xml xfetch (q := (some (0, v10), M)) rfl (hQ_sizeOf x3 M _ e_) ?_
          show xEv (189, 134, [some (13, x0), some (0, x1), some (0, x2), some (0, x3), some (0, x4)], [(0, v10)], M) _
          cases h
          exact xEvG_ret xml xfetch rfl
/-- ConsentDoorsModel.mends(II)I -/
def fQ_mends (a0 a1 a2 : Int) (M : xM) : Option (Int × xM) := if (fQ_isPrison a0 (xwr M a0 0 0)) = 0 then (some ((-2), (xwr M a0 0 0))) else (if (fQ_in a1 0 9 (xwr M a0 0 0)) = 0 then (some ((-2), (xwr M a0 0 0))) else (if (fQ_in a2 0 1 (xwr M a0 0 0)) = 0 then (some ((-2), (xwr M a0 0 0))) else (fQ_mends_L42 20001 a0 a1 a2 (-1) 0 (xwr M a0 0 0))))
theorem hQ_mends (a0 a1 a2 : Int) (M : xM) (r : Int × xM) (h : fQ_mends a0 a1 a2 M = some r) : xEv (189, 0, [some (13, a0), some (0, a1), some (0, a2), none, none], [], M) (some (0, r.1), r.2) := by
  unfold fQ_mends at h
  refine xEvG_n xml xfetch 4 (y := (189, 6, [some (13, a0), some (0, a1), some (0, a2), none, none], [(13, a0)], (xwr M a0 0 0))) rfl trivial ?_
  refine xEvG_call xml xfetch (q := (some (0, fQ_isPrison a0 (xwr M a0 0 0)), (xwr M a0 0 0))) rfl (hQ_isPrison a0 (xwr M a0 0 0) _ rfl) ?_
  show xEv (189, 9, [some (13, a0), some (0, a1), some (0, a2), none, none], [(0, (fQ_isPrison a0 (xwr M a0 0 0)))], (xwr M a0 0 0)) _
  refine xEvG_n xml xfetch 1 (y := (189, if (fQ_isPrison a0 (xwr M a0 0 0)) = 0 then 34 else 12, [some (13, a0), some (0, a1), some (0, a2), none, none], [], (xwr M a0 0 0))) rfl trivial ?_
  refine xEvG_br xml xfetch (fun c_ => ?_) (fun c_ => ?_)
  · have h := xif_t c_ h
    refine xEvG_n xml xfetch 1 (y := (189, 36, [some (13, a0), some (0, a1), some (0, a2), none, none], [(0, (-2))], (xwr M a0 0 0))) rfl trivial ?_
    cases h
    exact xEvG_ret xml xfetch rfl
  · have h := xif_f c_ h
    refine xEvG_n xml xfetch 4 (y := (189, 18, [some (13, a0), some (0, a1), some (0, a2), none, none], [(1, 9), (1, 0), (1, a1)], (xwr M a0 0 0))) rfl trivial ?_
    refine xEvG_call xml xfetch (q := (some (0, fQ_in a1 0 9 (xwr M a0 0 0)), (xwr M a0 0 0))) rfl (hQ_in a1 0 9 (xwr M a0 0 0) _ rfl) ?_
    show xEv (189, 21, [some (13, a0), some (0, a1), some (0, a2), none, none], [(0, (fQ_in a1 0 9 (xwr M a0 0 0)))], (xwr M a0 0 0)) _
    refine xEvG_n xml xfetch 1 (y := (189, if (fQ_in a1 0 9 (xwr M a0 0 0)) = 0 then 34 else 24, [some (13, a0), some (0, a1), some (0, a2), none, none], [], (xwr M a0 0 0))) rfl trivial ?_
    refine xEvG_br xml xfetch (fun c_ => ?_) (fun c_ => ?_)
    · have h := xif_t c_ h
      refine xEvG_n xml xfetch 1 (y := (189, 36, [some (13, a0), some (0, a1), some (0, a2), none, none], [(0, (-2))], (xwr M a0 0 0))) rfl trivial ?_
      cases h
      exact xEvG_ret xml xfetch rfl
    · have h := xif_f c_ h
      refine xEvG_n xml xfetch 4 (y := (189, 28, [some (13, a0), some (0, a1), some (0, a2), none, none], [(1, 1), (1, 0), (1, a2)], (xwr M a0 0 0))) rfl trivial ?_
      refine xEvG_call xml xfetch (q := (some (0, fQ_in a2 0 1 (xwr M a0 0 0)), (xwr M a0 0 0))) rfl (hQ_in a2 0 1 (xwr M a0 0 0) _ rfl) ?_
      show xEv (189, 31, [some (13, a0), some (0, a1), some (0, a2), none, none], [(0, (fQ_in a2 0 1 (xwr M a0 0 0)))], (xwr M a0 0 0)) _
      refine xEvG_n xml xfetch 1 (y := (189, if (fQ_in a2 0 1 (xwr M a0 0 0)) = 0 then 34 else 37, [some (13, a0), some (0, a1), some (0, a2), none, none], [], (xwr M a0 0 0))) rfl trivial ?_
      refine xEvG_br xml xfetch (fun c_ => ?_) (fun c_ => ?_)
      · have h := xif_t c_ h
        refine xEvG_n xml xfetch 1 (y := (189, 36, [some (13, a0), some (0, a1), some (0, a2), none, none], [(0, (-2))], (xwr M a0 0 0))) rfl trivial ?_
        cases h
        exact xEvG_ret xml xfetch rfl
      · have h := xif_f c_ h
        refine xEvG_n xml xfetch 4 (y := (189, 42, [some (13, a0), some (0, a1), some (0, a2), some (0, (-1)), some (0, 0)], [], (xwr M a0 0 0))) rfl trivial ?_
        refine xEvG_mask xml xfetch [true, true, true, true, true] ?_
        exact hQ_mends_L42 20001 a0 a1 a2 (-1) 0 (xwr M a0 0 0) _ h

/-- ConsentDoorsModel.harmOf(I)I -/
def fQ_harmOf (a0 a1 : Int) (M : xM) : Option (Int × xM) := xB (fQ_mostPlain a0 M) (fun q_ => match q_ with | (v1, m1) => xB (fQ_mostNow a0 (xwr m1 a0 27 (xshl 1 a1))) (fun q_ => match q_ with | (v2, m2) => some ((xw32 (v1 - v2)), m2)))
theorem hQ_harmOf (a0 a1 : Int) (M : xM) (r : Int × xM) (h : fQ_harmOf a0 a1 M = some r) : xEv (190, 0, [some (13, a0), some (0, a1), none], [], M) (some (0, r.1), r.2) := by
  unfold fQ_harmOf at h
  refine xEvG_n xml xfetch 1 (y := (190, 1, [some (13, a0), some (0, a1), none], [(13, a0)], M)) rfl trivial ?_
  obtain ⟨⟨v1, m1⟩, e_, h⟩ := xB_t h
  refine xEvG_call xml xfetch (q := (some (0, v1), m1)) rfl (hQ_mostPlain a0 M _ e_) ?_
  show xEv (190, 4, [some (13, a0), some (0, a1), none], [(0, v1)], m1) _
  refine xEvG_n xml xfetch 8 (y := (190, 14, [some (13, a0), some (0, a1), some (0, v1)], [(13, a0), (0, v1)], (xwr m1 a0 27 (xshl 1 a1)))) rfl trivial ?_
  obtain ⟨⟨v2, m2⟩, e_, h⟩ := xB_t h
  refine xEvG_call xml xfetch (q := (some (0, v2), m2)) rfl (hQ_mostNow a0 (xwr m1 a0 27 (xshl 1 a1)) _ e_) ?_
  show xEv (190, 17, [some (13, a0), some (0, a1), some (0, v1)], [(0, v2), (0, v1)], m2) _
  refine xEvG_n xml xfetch 1 (y := (190, 18, [some (13, a0), some (0, a1), some (0, v1)], [(0, (xw32 (v1 - v2)))], m2)) rfl trivial ?_
  cases h
  exact xEvG_ret xml xfetch rfl

/-- ConsentDoorsModel.harm(I)I -/
def fQ_harm (a0 a1 : Int) (M : xM) : Option (Int × xM) := if (fQ_isCell a0 a1 (xwr M a0 0 0)) = 0 then (some ((-2), (xwr M a0 0 0))) else (xB (fQ_harmOf a0 a1 (xwr M a0 0 0)) (fun q_ => match q_ with | (v2, m2) => some (v2, m2)))
theorem hQ_harm (a0 a1 : Int) (M : xM) (r : Int × xM) (h : fQ_harm a0 a1 M = some r) : xEv (191, 0, [some (13, a0), some (0, a1)], [], M) (some (0, r.1), r.2) := by
  unfold fQ_harm at h
  refine xEvG_n xml xfetch 6 (y := (191, 8, [some (13, a0), some (0, a1)], [(1, a1), (13, a0)], (xwr M a0 0 0))) rfl trivial ?_
  refine xEvG_call xml xfetch (q := (some (0, fQ_isCell a0 a1 (xwr M a0 0 0)), (xwr M a0 0 0))) rfl (hQ_isCell a0 a1 (xwr M a0 0 0) _ rfl) ?_
  show xEv (191, 11, [some (13, a0), some (0, a1)], [(0, (fQ_isCell a0 a1 (xwr M a0 0 0)))], (xwr M a0 0 0)) _
  refine xEvG_n xml xfetch 1 (y := (191, if (fQ_isCell a0 a1 (xwr M a0 0 0)) = 0 then 22 else 14, [some (13, a0), some (0, a1)], [], (xwr M a0 0 0))) rfl trivial ?_
  refine xEvG_br xml xfetch (fun c_ => ?_) (fun c_ => ?_)
  · have h := xif_t c_ h
    refine xEvG_n xml xfetch 1 (y := (191, 24, [some (13, a0), some (0, a1)], [(0, (-2))], (xwr M a0 0 0))) rfl trivial ?_
    cases h
    exact xEvG_ret xml xfetch rfl
  · have h := xif_f c_ h
    refine xEvG_n xml xfetch 2 (y := (191, 16, [some (13, a0), some (0, a1)], [(0, a1), (13, a0)], (xwr M a0 0 0))) rfl trivial ?_
    obtain ⟨⟨v2, m2⟩, e_, h⟩ := xB_t h
    refine xEvG_call xml xfetch (q := (some (0, v2), m2)) rfl (hQ_harmOf a0 a1 (xwr M a0 0 0) _ e_) ?_
    show xEv (191, 19, [some (13, a0), some (0, a1)], [(0, v2)], m2) _
    refine xEvG_n xml xfetch 1 (y := (191, 24, [some (13, a0), some (0, a1)], [(0, v2)], m2)) rfl trivial ?_
    cases h
    exact xEvG_ret xml xfetch rfl

def fQ_courted_L25 : Nat → Int → Int → Int → Int → xM → Option (Int × xM)
  | 0, _, _, _, _, _ => none
  | g + 1, x0, x1, x2, x3, M => if x3 < (M (x0 + 7) 0) then (xB (fQ_harmOf x0 x3 M) (fun q_ => match q_ with | (v3, m3) => if x2 < v3 then ((fQ_courted_L25 g) x0 x3 v3 (xw32 (x3 + 1)) m3) else ((fQ_courted_L25 g) x0 x1 x2 (xw32 (x3 + 1)) m3))) else (some (x1, M))
theorem hQ_courted_L25 : ∀ (g : Nat) (x0 x1 x2 x3 : Int) (M : xM) (r : Int × xM) (h : fQ_courted_L25 g x0 x1 x2 x3 M = some r), xEv (192, 25, [some (13, x0), some (0, x1), some (0, x2), some (0, x3), none], [], M) (some (0, r.1), r.2)
  | 0, _, _, _, _, _, _, h => by cases h
  | g + 1, x0, x1, x2, x3, M, r, h => by
    unfold fQ_courted_L25 at h
    refine xEvG_n xml xfetch 6 (y := (192, if x3 < (M (x0 + 7) 0) then 35 else 62, [some (13, x0), some (0, x1), some (0, x2), some (0, x3), none], [], M)) rfl ⟨by decide, trivial⟩ ?_
    refine xEvG_br xml xfetch (fun c_ => ?_) (fun c_ => ?_)
    · have h := xif_t c_ h
      refine xEvG_n xml xfetch 2 (y := (192, 37, [some (13, x0), some (0, x1), some (0, x2), some (0, x3), none], [(0, x3), (13, x0)], M)) rfl trivial ?_
      obtain ⟨⟨v3, m3⟩, e_, h⟩ := xB_t h
      refine xEvG_call xml xfetch (q := (some (0, v3), m3)) rfl (hQ_harmOf x0 x3 M _ e_) ?_
      show xEv (192, 40, [some (13, x0), some (0, x1), some (0, x2), some (0, x3), none], [(0, v3)], m3) _
      refine xEvG_n xml xfetch 4 (y := (192, if x2 < v3 then 51 else 48, [some (13, x0), some (0, x1), some (0, x2), some (0, x3), some (0, v3)], [], m3)) rfl trivial ?_
      refine xEvG_br xml xfetch (fun c_ => ?_) (fun c_ => ?_)
      · have h := xif_t c_ h
        refine xEvG_n xml xfetch 6 (y := (192, 25, [some (13, x0), some (0, x3), some (0, v3), some (0, (xw32 (x3 + 1))), some (0, v3)], [], m3)) rfl trivial ?_
        refine xEvG_mask xml xfetch [true, true, true, true, false] ?_
        exact (hQ_courted_L25 g) x0 x3 v3 (xw32 (x3 + 1)) m3 _ h
      · have h := xif_f c_ h
        refine xEvG_n xml xfetch 3 (y := (192, 25, [some (13, x0), some (0, x1), some (0, x2), some (0, (xw32 (x3 + 1))), some (0, v3)], [], m3)) rfl trivial ?_
        refine xEvG_mask xml xfetch [true, true, true, true, false] ?_
        exact (hQ_courted_L25 g) x0 x1 x2 (xw32 (x3 + 1)) m3 _ h
    · have h := xif_f c_ h
      refine xEvG_n xml xfetch 1 (y := (192, 63, [some (13, x0), some (0, x1), some (0, x2), some (0, x3), none], [(0, x1)], M)) rfl trivial ?_
      cases h
      exact xEvG_ret xml xfetch rfl
/-- ConsentDoorsModel.courted()I -/
def fQ_courted (a0 : Int) (M : xM) : Option (Int × xM) := if (fQ_isPrison a0 (xwr M a0 0 0)) = 0 then (some ((-2), (xwr M a0 0 0))) else (xB (fQ_harmOf a0 0 (xwr M a0 0 0)) (fun q_ => match q_ with | (v2, m2) => fQ_courted_L25 20001 a0 0 v2 1 m2))
theorem hQ_courted (a0 : Int) (M : xM) (r : Int × xM) (h : fQ_courted a0 M = some r) : xEv (192, 0, [some (13, a0), none, none, none, none], [], M) (some (0, r.1), r.2) := by
  unfold fQ_courted at h
  refine xEvG_n xml xfetch 4 (y := (192, 6, [some (13, a0), none, none, none, none], [(13, a0)], (xwr M a0 0 0))) rfl trivial ?_
  refine xEvG_call xml xfetch (q := (some (0, fQ_isPrison a0 (xwr M a0 0 0)), (xwr M a0 0 0))) rfl (hQ_isPrison a0 (xwr M a0 0 0) _ rfl) ?_
  show xEv (192, 9, [some (13, a0), none, none, none, none], [(0, (fQ_isPrison a0 (xwr M a0 0 0)))], (xwr M a0 0 0)) _
  refine xEvG_n xml xfetch 1 (y := (192, if (fQ_isPrison a0 (xwr M a0 0 0)) = 0 then 12 else 15, [some (13, a0), none, none, none, none], [], (xwr M a0 0 0))) rfl trivial ?_
  refine xEvG_br xml xfetch (fun c_ => ?_) (fun c_ => ?_)
  · have h := xif_t c_ h
    refine xEvG_n xml xfetch 1 (y := (192, 14, [some (13, a0), none, none, none, none], [(0, (-2))], (xwr M a0 0 0))) rfl trivial ?_
    cases h
    exact xEvG_ret xml xfetch rfl
  · have h := xif_f c_ h
    refine xEvG_n xml xfetch 4 (y := (192, 19, [some (13, a0), some (0, 0), none, none, none], [(0, 0), (13, a0)], (xwr M a0 0 0))) rfl trivial ?_
    obtain ⟨⟨v2, m2⟩, e_, h⟩ := xB_t h
    refine xEvG_call xml xfetch (q := (some (0, v2), m2)) rfl (hQ_harmOf a0 0 (xwr M a0 0 0) _ e_) ?_
    show xEv (192, 22, [some (13, a0), some (0, 0), none, none, none], [(0, v2)], m2) _
    refine xEvG_n xml xfetch 3 (y := (192, 25, [some (13, a0), some (0, 0), some (0, v2), some (0, 1), none], [], m2)) rfl trivial ?_
    refine xEvG_mask xml xfetch [true, true, true, true, false] ?_
    exact hQ_courted_L25 20001 a0 0 v2 1 m2 _ h

/-- ConsentDoorsModel.loyalty(I)I -/
def fQ_loyalty (a0 a1 : Int) (M : xM) : Option (Int × xM) := if (fQ_isCell a0 a1 (xwr M a0 0 0)) = 0 then (some ((-2), (xwr M a0 0 0))) else (xB (fQ_mostPlain a0 (xwr M a0 0 0)) (fun q_ => match q_ with | (v2, m2) => xB (fQ_mostNow a0 (xwr m2 a0 28 (xshl 1 a1))) (fun q_ => match q_ with | (v3, m3) => some ((xw32 (v3 - v2)), m3))))
theorem hQ_loyalty (a0 a1 : Int) (M : xM) (r : Int × xM) (h : fQ_loyalty a0 a1 M = some r) : xEv (193, 0, [some (13, a0), some (0, a1), none], [], M) (some (0, r.1), r.2) := by
  unfold fQ_loyalty at h
  refine xEvG_n xml xfetch 6 (y := (193, 8, [some (13, a0), some (0, a1), none], [(1, a1), (13, a0)], (xwr M a0 0 0))) rfl trivial ?_
  refine xEvG_call xml xfetch (q := (some (0, fQ_isCell a0 a1 (xwr M a0 0 0)), (xwr M a0 0 0))) rfl (hQ_isCell a0 a1 (xwr M a0 0 0) _ rfl) ?_
  show xEv (193, 11, [some (13, a0), some (0, a1), none], [(0, (fQ_isCell a0 a1 (xwr M a0 0 0)))], (xwr M a0 0 0)) _
  refine xEvG_n xml xfetch 1 (y := (193, if (fQ_isCell a0 a1 (xwr M a0 0 0)) = 0 then 14 else 17, [some (13, a0), some (0, a1), none], [], (xwr M a0 0 0))) rfl trivial ?_
  refine xEvG_br xml xfetch (fun c_ => ?_) (fun c_ => ?_)
  · have h := xif_t c_ h
    refine xEvG_n xml xfetch 1 (y := (193, 16, [some (13, a0), some (0, a1), none], [(0, (-2))], (xwr M a0 0 0))) rfl trivial ?_
    cases h
    exact xEvG_ret xml xfetch rfl
  · have h := xif_f c_ h
    refine xEvG_n xml xfetch 1 (y := (193, 18, [some (13, a0), some (0, a1), none], [(13, a0)], (xwr M a0 0 0))) rfl trivial ?_
    obtain ⟨⟨v2, m2⟩, e_, h⟩ := xB_t h
    refine xEvG_call xml xfetch (q := (some (0, v2), m2)) rfl (hQ_mostPlain a0 (xwr M a0 0 0) _ e_) ?_
    show xEv (193, 21, [some (13, a0), some (0, a1), none], [(0, v2)], m2) _
    refine xEvG_n xml xfetch 7 (y := (193, 30, [some (13, a0), some (0, a1), some (0, v2)], [(13, a0)], (xwr m2 a0 28 (xshl 1 a1)))) rfl trivial ?_
    obtain ⟨⟨v3, m3⟩, e_, h⟩ := xB_t h
    refine xEvG_call xml xfetch (q := (some (0, v3), m3)) rfl (hQ_mostNow a0 (xwr m2 a0 28 (xshl 1 a1)) _ e_) ?_
    show xEv (193, 33, [some (13, a0), some (0, a1), some (0, v2)], [(0, v3)], m3) _
    refine xEvG_n xml xfetch 2 (y := (193, 35, [some (13, a0), some (0, a1), some (0, v2)], [(0, (xw32 (v3 - v2)))], m3)) rfl trivial ?_
    cases h
    exact xEvG_ret xml xfetch rfl

/-- ConsentDoorsModel.soupOf(IIII)I -/
def fQ_soupOf (a0 a1 a2 a3 a4 : Int) (M : xM) : Option (Int × xM) := xB (fQ_mostPlain a0 M) (fun q_ => match q_ with | (v1, m1) => xB (fQ_mostNow a0 (xwr (xwr (xwr (xwr m1 a0 30 a1) a0 31 a2) a0 32 a3) a0 33 a4)) (fun q_ => match q_ with | (v2, m2) => some ((xw32 (v2 - v1)), m2)))
theorem hQ_soupOf (a0 a1 a2 a3 a4 : Int) (M : xM) (r : Int × xM) (h : fQ_soupOf a0 a1 a2 a3 a4 M = some r) : xEv (194, 0, [some (13, a0), some (0, a1), some (0, a2), some (0, a3), some (0, a4), none], [], M) (some (0, r.1), r.2) := by
  unfold fQ_soupOf at h
  refine xEvG_n xml xfetch 1 (y := (194, 1, [some (13, a0), some (0, a1), some (0, a2), some (0, a3), some (0, a4), none], [(13, a0)], M)) rfl trivial ?_
  obtain ⟨⟨v1, m1⟩, e_, h⟩ := xB_t h
  refine xEvG_call xml xfetch (q := (some (0, v1), m1)) rfl (hQ_mostPlain a0 M _ e_) ?_
  show xEv (194, 4, [some (13, a0), some (0, a1), some (0, a2), some (0, a3), some (0, a4), none], [(0, v1)], m1) _
  refine xEvG_n xml xfetch 14 (y := (194, 28, [some (13, a0), some (0, a1), some (0, a2), some (0, a3), some (0, a4), some (0, v1)], [(13, a0)], (xwr (xwr (xwr (xwr m1 a0 30 a1) a0 31 a2) a0 32 a3) a0 33 a4))) rfl trivial ?_
  obtain ⟨⟨v2, m2⟩, e_, h⟩ := xB_t h
  refine xEvG_call xml xfetch (q := (some (0, v2), m2)) rfl (hQ_mostNow a0 (xwr (xwr (xwr (xwr m1 a0 30 a1) a0 31 a2) a0 32 a3) a0 33 a4) _ e_) ?_
  show xEv (194, 31, [some (13, a0), some (0, a1), some (0, a2), some (0, a3), some (0, a4), some (0, v1)], [(0, v2)], m2) _
  refine xEvG_n xml xfetch 2 (y := (194, 34, [some (13, a0), some (0, a1), some (0, a2), some (0, a3), some (0, a4), some (0, v1)], [(0, (xw32 (v2 - v1)))], m2)) rfl trivial ?_
  cases h
  exact xEvG_ret xml xfetch rfl

/-- ConsentDoorsModel.soup(IIII)I -/
def fQ_soup (a0 a1 a2 a3 a4 : Int) (M : xM) : Option (Int × xM) := if (fQ_isCell a0 a1 (xwr M a0 0 0)) = 0 then (some ((-2), (xwr M a0 0 0))) else (if (fQ_isSide a2 (xwr M a0 0 0)) = 0 then (some ((-2), (xwr M a0 0 0))) else (xB (fQ_besideIn a0 0 a1 a2 (xwr M a0 0 0)) (fun v3 => if v3 = (-1) then (some ((-2), (xwr M a0 0 0))) else (if (fQ_in a3 1 9 (xwr M a0 0 0)) = 0 then (some ((-2), (xwr M a0 0 0))) else (if (fQ_isHour a0 a4 (xwr M a0 0 0)) = 0 then (some ((-2), (xwr M a0 0 0))) else (xB (fQ_soupOf a0 a1 a2 a3 a4 (xwr M a0 0 0)) (fun q_ => match q_ with | (v6, m6) => some (v6, m6))))))))
theorem hQ_soup (a0 a1 a2 a3 a4 : Int) (M : xM) (r : Int × xM) (h : fQ_soup a0 a1 a2 a3 a4 M = some r) : xEv (195, 0, [some (13, a0), some (0, a1), some (0, a2), some (0, a3), some (0, a4)], [], M) (some (0, r.1), r.2) := by
  unfold fQ_soup at h
  refine xEvG_n xml xfetch 6 (y := (195, 8, [some (13, a0), some (0, a1), some (0, a2), some (0, a3), some (0, a4)], [(1, a1), (13, a0)], (xwr M a0 0 0))) rfl trivial ?_
  refine xEvG_call xml xfetch (q := (some (0, fQ_isCell a0 a1 (xwr M a0 0 0)), (xwr M a0 0 0))) rfl (hQ_isCell a0 a1 (xwr M a0 0 0) _ rfl) ?_
  show xEv (195, 11, [some (13, a0), some (0, a1), some (0, a2), some (0, a3), some (0, a4)], [(0, (fQ_isCell a0 a1 (xwr M a0 0 0)))], (xwr M a0 0 0)) _
  refine xEvG_n xml xfetch 1 (y := (195, if (fQ_isCell a0 a1 (xwr M a0 0 0)) = 0 then 67 else 14, [some (13, a0), some (0, a1), some (0, a2), some (0, a3), some (0, a4)], [], (xwr M a0 0 0))) rfl trivial ?_
  refine xEvG_br xml xfetch (fun c_ => ?_) (fun c_ => ?_)
  · have h := xif_t c_ h
    refine xEvG_n xml xfetch 1 (y := (195, 69, [some (13, a0), some (0, a1), some (0, a2), some (0, a3), some (0, a4)], [(0, (-2))], (xwr M a0 0 0))) rfl trivial ?_
    cases h
    exact xEvG_ret xml xfetch rfl
  · have h := xif_f c_ h
    refine xEvG_n xml xfetch 2 (y := (195, 16, [some (13, a0), some (0, a1), some (0, a2), some (0, a3), some (0, a4)], [(1, a2)], (xwr M a0 0 0))) rfl trivial ?_
    refine xEvG_call xml xfetch (q := (some (0, fQ_isSide a2 (xwr M a0 0 0)), (xwr M a0 0 0))) rfl (hQ_isSide a2 (xwr M a0 0 0) _ rfl) ?_
    show xEv (195, 19, [some (13, a0), some (0, a1), some (0, a2), some (0, a3), some (0, a4)], [(0, (fQ_isSide a2 (xwr M a0 0 0)))], (xwr M a0 0 0)) _
    refine xEvG_n xml xfetch 1 (y := (195, if (fQ_isSide a2 (xwr M a0 0 0)) = 0 then 67 else 22, [some (13, a0), some (0, a1), some (0, a2), some (0, a3), some (0, a4)], [], (xwr M a0 0 0))) rfl trivial ?_
    refine xEvG_br xml xfetch (fun c_ => ?_) (fun c_ => ?_)
    · have h := xif_t c_ h
      refine xEvG_n xml xfetch 1 (y := (195, 69, [some (13, a0), some (0, a1), some (0, a2), some (0, a3), some (0, a4)], [(0, (-2))], (xwr M a0 0 0))) rfl trivial ?_
      cases h
      exact xEvG_ret xml xfetch rfl
    · have h := xif_f c_ h
      refine xEvG_n xml xfetch 4 (y := (195, 26, [some (13, a0), some (0, a1), some (0, a2), some (0, a3), some (0, a4)], [(0, a2), (0, a1), (0, 0), (13, a0)], (xwr M a0 0 0))) rfl trivial ?_
      obtain ⟨v3, e_, h⟩ := xB_t h
      refine xEvG_call xml xfetch (q := (some (0, v3), (xwr M a0 0 0))) rfl (hQ_besideIn a0 0 a1 a2 (xwr M a0 0 0) _ e_) ?_
      show xEv (195, 29, [some (13, a0), some (0, a1), some (0, a2), some (0, a3), some (0, a4)], [(0, v3)], (xwr M a0 0 0)) _
      refine xEvG_n xml xfetch 2 (y := (195, if v3 = (-1) then 67 else 33, [some (13, a0), some (0, a1), some (0, a2), some (0, a3), some (0, a4)], [], (xwr M a0 0 0))) rfl trivial ?_
      refine xEvG_br xml xfetch (fun c_ => ?_) (fun c_ => ?_)
      · have h := xif_t c_ h
        refine xEvG_n xml xfetch 1 (y := (195, 69, [some (13, a0), some (0, a1), some (0, a2), some (0, a3), some (0, a4)], [(0, (-2))], (xwr M a0 0 0))) rfl trivial ?_
        cases h
        exact xEvG_ret xml xfetch rfl
      · have h := xif_f c_ h
        refine xEvG_n xml xfetch 4 (y := (195, 39, [some (13, a0), some (0, a1), some (0, a2), some (0, a3), some (0, a4)], [(1, 9), (1, 1), (1, a3)], (xwr M a0 0 0))) rfl trivial ?_
        refine xEvG_call xml xfetch (q := (some (0, fQ_in a3 1 9 (xwr M a0 0 0)), (xwr M a0 0 0))) rfl (hQ_in a3 1 9 (xwr M a0 0 0) _ rfl) ?_
        show xEv (195, 42, [some (13, a0), some (0, a1), some (0, a2), some (0, a3), some (0, a4)], [(0, (fQ_in a3 1 9 (xwr M a0 0 0)))], (xwr M a0 0 0)) _
        refine xEvG_n xml xfetch 1 (y := (195, if (fQ_in a3 1 9 (xwr M a0 0 0)) = 0 then 67 else 45, [some (13, a0), some (0, a1), some (0, a2), some (0, a3), some (0, a4)], [], (xwr M a0 0 0))) rfl trivial ?_
        refine xEvG_br xml xfetch (fun c_ => ?_) (fun c_ => ?_)
        · have h := xif_t c_ h
          refine xEvG_n xml xfetch 1 (y := (195, 69, [some (13, a0), some (0, a1), some (0, a2), some (0, a3), some (0, a4)], [(0, (-2))], (xwr M a0 0 0))) rfl trivial ?_
          cases h
          exact xEvG_ret xml xfetch rfl
        · have h := xif_f c_ h
          refine xEvG_n xml xfetch 3 (y := (195, 49, [some (13, a0), some (0, a1), some (0, a2), some (0, a3), some (0, a4)], [(1, a4), (13, a0)], (xwr M a0 0 0))) rfl trivial ?_
          refine xEvG_call xml xfetch (q := (some (0, fQ_isHour a0 a4 (xwr M a0 0 0)), (xwr M a0 0 0))) rfl (hQ_isHour a0 a4 (xwr M a0 0 0) _ rfl) ?_
          show xEv (195, 52, [some (13, a0), some (0, a1), some (0, a2), some (0, a3), some (0, a4)], [(0, (fQ_isHour a0 a4 (xwr M a0 0 0)))], (xwr M a0 0 0)) _
          refine xEvG_n xml xfetch 1 (y := (195, if (fQ_isHour a0 a4 (xwr M a0 0 0)) = 0 then 67 else 55, [some (13, a0), some (0, a1), some (0, a2), some (0, a3), some (0, a4)], [], (xwr M a0 0 0))) rfl trivial ?_
          refine xEvG_br xml xfetch (fun c_ => ?_) (fun c_ => ?_)
          · have h := xif_t c_ h
            refine xEvG_n xml xfetch 1 (y := (195, 69, [some (13, a0), some (0, a1), some (0, a2), some (0, a3), some (0, a4)], [(0, (-2))], (xwr M a0 0 0))) rfl trivial ?_
            cases h
            exact xEvG_ret xml xfetch rfl
          · have h := xif_f c_ h
            refine xEvG_n xml xfetch 5 (y := (195, 61, [some (13, a0), some (0, a1), some (0, a2), some (0, a3), some (0, a4)], [(0, a4), (0, a3), (0, a2), (0, a1), (13, a0)], (xwr M a0 0 0))) rfl trivial ?_
            obtain ⟨⟨v6, m6⟩, e_, h⟩ := xB_t h
            refine xEvG_call xml xfetch (q := (some (0, v6), m6)) rfl (hQ_soupOf a0 a1 a2 a3 a4 (xwr M a0 0 0) _ e_) ?_
            show xEv (195, 64, [some (13, a0), some (0, a1), some (0, a2), some (0, a3), some (0, a4)], [(0, v6)], m6) _
            refine xEvG_n xml xfetch 1 (y := (195, 69, [some (13, a0), some (0, a1), some (0, a2), some (0, a3), some (0, a4)], [(0, v6)], m6)) rfl trivial ?_
            cases h
            exact xEvG_ret xml xfetch rfl

def fQ_gift_L81 (k_48 : Int → Int → Int → Int → Int → Int → xM → Option (Int × xM)) (x0 x1 x2 x3 x4 x5 y0 : Int) (M : xM) : Option (Int × xM) := if x3 < y0 then (k_48 x0 x1 (xw32 ((xw32 (10 * x4)) + x5)) y0 x4 (xw32 (x5 + 1)) M) else (k_48 x0 x1 x2 x3 x4 (xw32 (x5 + 1)) M)
theorem hQ_gift_L81 (k_48 : Int → Int → Int → Int → Int → Int → xM → Option (Int × xM)) (hk_48 : ∀ (x0 x1 x2 x3 x4 x5 : Int) (M : xM) (r : Int × xM), k_48 x0 x1 x2 x3 x4 x5 M = some r → xEv (196, 48, [some (13, x0), some (0, x1), some (0, x2), some (0, x3), some (0, x4), some (0, x5), none], [], M) (some (0, r.1), r.2)) (x0 x1 x2 x3 x4 x5 y0 : Int) (M : xM) (r : Int × xM) (h : fQ_gift_L81 k_48 x0 x1 x2 x3 x4 x5 y0 M = some r) : xEv (196, 81, [some (13, x0), some (0, x1), some (0, x2), some (0, x3), some (0, x4), some (0, x5), none], [(0, y0)], M) (some (0, r.1), r.2) := by
  unfold fQ_gift_L81 at h
  refine xEvG_n xml xfetch 4 (y := (196, if x3 < y0 then 92 else 89, [some (13, x0), some (0, x1), some (0, x2), some (0, x3), some (0, x4), some (0, x5), some (0, y0)], [], M)) rfl trivial ?_
  refine xEvG_br xml xfetch (fun c_ => ?_) (fun c_ => ?_)
  · have h := xif_t c_ h
    refine xEvG_n xml xfetch 10 (y := (196, 48, [some (13, x0), some (0, x1), some (0, (xw32 ((xw32 (10 * x4)) + x5))), some (0, y0), some (0, x4), some (0, (xw32 (x5 + 1))), some (0, y0)], [], M)) rfl trivial ?_
    refine xEvG_mask xml xfetch [true, true, true, true, true, true, false] ?_
    exact hk_48 x0 x1 (xw32 ((xw32 (10 * x4)) + x5)) y0 x4 (xw32 (x5 + 1)) M _ h
  · have h := xif_f c_ h
    refine xEvG_n xml xfetch 3 (y := (196, 48, [some (13, x0), some (0, x1), some (0, x2), some (0, x3), some (0, x4), some (0, (xw32 (x5 + 1))), some (0, y0)], [], M)) rfl trivial ?_
    refine xEvG_mask xml xfetch [true, true, true, true, true, true, false] ?_
    exact hk_48 x0 x1 x2 x3 x4 (xw32 (x5 + 1)) M _ h
def fQ_gift_L48 (k_34 : Int → Int → Int → Int → Int → xM → Option (Int × xM)) : Nat → Int → Int → Int → Int → Int → Int → xM → Option (Int × xM)
  | 0, _, _, _, _, _, _, _ => none
  | g + 1, x0, x1, x2, x3, x4, x5, M => if x5 < 2 then (xB (fQ_besideIn x0 0 x4 x5 M) (fun v3 => if v3 = (-1) then (fQ_gift_L81 (fQ_gift_L48 k_34 g) x0 x1 x2 x3 x4 x5 0 M) else (xB (fQ_soupOf x0 x4 x5 x1 0 M) (fun q_ => match q_ with | (v4, m4) => if x3 < v4 then ((fQ_gift_L48 k_34 g) x0 x1 (xw32 ((xw32 (10 * x4)) + x5)) v4 x4 (xw32 (x5 + 1)) m4) else ((fQ_gift_L48 k_34 g) x0 x1 x2 x3 x4 (xw32 (x5 + 1)) m4))))) else (k_34 x0 x1 x2 x3 (xw32 (x4 + 1)) M)
theorem hQ_gift_L48 (k_34 : Int → Int → Int → Int → Int → xM → Option (Int × xM)) (hk_34 : ∀ (x0 x1 x2 x3 x4 : Int) (M : xM) (r : Int × xM), k_34 x0 x1 x2 x3 x4 M = some r → xEv (196, 34, [some (13, x0), some (0, x1), some (0, x2), some (0, x3), some (0, x4), none, none], [], M) (some (0, r.1), r.2)) : ∀ (g : Nat) (x0 x1 x2 x3 x4 x5 : Int) (M : xM) (r : Int × xM) (h : fQ_gift_L48 k_34 g x0 x1 x2 x3 x4 x5 M = some r), xEv (196, 48, [some (13, x0), some (0, x1), some (0, x2), some (0, x3), some (0, x4), some (0, x5), none], [], M) (some (0, r.1), r.2)
  | 0, _, _, _, _, _, _, _, _, h => by cases h
  | g + 1, x0, x1, x2, x3, x4, x5, M, r, h => by
    unfold fQ_gift_L48 at h
    refine xEvG_n xml xfetch 3 (y := (196, if x5 < 2 then 54 else 110, [some (13, x0), some (0, x1), some (0, x2), some (0, x3), some (0, x4), some (0, x5), none], [], M)) rfl trivial ?_
    refine xEvG_br xml xfetch (fun c_ => ?_) (fun c_ => ?_)
    · have h := xif_t c_ h
      refine xEvG_n xml xfetch 4 (y := (196, 60, [some (13, x0), some (0, x1), some (0, x2), some (0, x3), some (0, x4), some (0, x5), none], [(0, x5), (0, x4), (0, 0), (13, x0)], M)) rfl trivial ?_
      obtain ⟨v3, e_, h⟩ := xB_t h
      refine xEvG_call xml xfetch (q := (some (0, v3), M)) rfl (hQ_besideIn x0 0 x4 x5 M _ e_) ?_
      show xEv (196, 63, [some (13, x0), some (0, x1), some (0, x2), some (0, x3), some (0, x4), some (0, x5), none], [(0, v3)], M) _
      refine xEvG_n xml xfetch 2 (y := (196, if v3 = (-1) then 67 else 71, [some (13, x0), some (0, x1), some (0, x2), some (0, x3), some (0, x4), some (0, x5), none], [], M)) rfl trivial ?_
      refine xEvG_br xml xfetch (fun c_ => ?_) (fun c_ => ?_)
      · have h := xif_t c_ h
        refine xEvG_n xml xfetch 2 (y := (196, 81, [some (13, x0), some (0, x1), some (0, x2), some (0, x3), some (0, x4), some (0, x5), none], [(0, 0)], M)) rfl trivial ?_
        refine xEvG_mask xml xfetch [true, true, true, true, true, true, false] ?_
        exact hQ_gift_L81 (fQ_gift_L48 k_34 g) (hQ_gift_L48 k_34 hk_34 g) x0 x1 x2 x3 x4 x5 0 M _ h
      · have h := xif_f c_ h
        refine xEvG_n xml xfetch 5 (y := (196, 78, [some (13, x0), some (0, x1), some (0, x2), some (0, x3), some (0, x4), some (0, x5), none], [(0, 0), (0, x1), (0, x5), (0, x4), (13, x0)], M)) rfl trivial ?_
        obtain ⟨⟨v4, m4⟩, e_, h⟩ := xB_t h
        refine xEvG_call xml xfetch (q := (some (0, v4), m4)) rfl (hQ_soupOf x0 x4 x5 x1 0 M _ e_) ?_
        show xEv (196, 81, [some (13, x0), some (0, x1), some (0, x2), some (0, x3), some (0, x4), some (0, x5), none], [(0, v4)], m4) _
        refine xEvG_n xml xfetch 4 (y := (196, if x3 < v4 then 92 else 89, [some (13, x0), some (0, x1), some (0, x2), some (0, x3), some (0, x4), some (0, x5), some (0, v4)], [], m4)) rfl trivial ?_
        refine xEvG_br xml xfetch (fun c_ => ?_) (fun c_ => ?_)
        · have h := xif_t c_ h
          refine xEvG_n xml xfetch 10 (y := (196, 48, [some (13, x0), some (0, x1), some (0, (xw32 ((xw32 (10 * x4)) + x5))), some (0, v4), some (0, x4), some (0, (xw32 (x5 + 1))), some (0, v4)], [], m4)) rfl trivial ?_
          refine xEvG_mask xml xfetch [true, true, true, true, true, true, false] ?_
          exact (hQ_gift_L48 k_34 hk_34 g) x0 x1 (xw32 ((xw32 (10 * x4)) + x5)) v4 x4 (xw32 (x5 + 1)) m4 _ h
        · have h := xif_f c_ h
          refine xEvG_n xml xfetch 3 (y := (196, 48, [some (13, x0), some (0, x1), some (0, x2), some (0, x3), some (0, x4), some (0, (xw32 (x5 + 1))), some (0, v4)], [], m4)) rfl trivial ?_
          refine xEvG_mask xml xfetch [true, true, true, true, true, true, false] ?_
          exact (hQ_gift_L48 k_34 hk_34 g) x0 x1 x2 x3 x4 (xw32 (x5 + 1)) m4 _ h
    · have h := xif_f c_ h
      refine xEvG_n xml xfetch 2 (y := (196, 34, [some (13, x0), some (0, x1), some (0, x2), some (0, x3), some (0, (xw32 (x4 + 1))), some (0, x5), none], [], M)) rfl trivial ?_
      refine xEvG_mask xml xfetch [true, true, true, true, true, false, false] ?_
      exact hk_34 x0 x1 x2 x3 (xw32 (x4 + 1)) M _ h
def fQ_gift_L34 : Nat → Int → Int → Int → Int → Int → xM → Option (Int × xM)
  | 0, _, _, _, _, _, _ => none
  | g + 1, x0, x1, x2, x3, x4, M => if x4 < (M (x0 + 7) 0) then (fQ_gift_L48 (fQ_gift_L34 g) 20001 x0 x1 x2 x3 x4 0 M) else (some (x2, M))
theorem hQ_gift_L34 : ∀ (g : Nat) (x0 x1 x2 x3 x4 : Int) (M : xM) (r : Int × xM) (h : fQ_gift_L34 g x0 x1 x2 x3 x4 M = some r), xEv (196, 34, [some (13, x0), some (0, x1), some (0, x2), some (0, x3), some (0, x4), none, none], [], M) (some (0, r.1), r.2)
  | 0, _, _, _, _, _, _, _, h => by cases h
  | g + 1, x0, x1, x2, x3, x4, M, r, h => by
    unfold fQ_gift_L34 at h
    refine xEvG_n xml xfetch 6 (y := (196, if x4 < (M (x0 + 7) 0) then 45 else 116, [some (13, x0), some (0, x1), some (0, x2), some (0, x3), some (0, x4), none, none], [], M)) rfl ⟨by decide, trivial⟩ ?_
    refine xEvG_br xml xfetch (fun c_ => ?_) (fun c_ => ?_)
    · have h := xif_t c_ h
      refine xEvG_n xml xfetch 2 (y := (196, 48, [some (13, x0), some (0, x1), some (0, x2), some (0, x3), some (0, x4), some (0, 0), none], [], M)) rfl trivial ?_
      refine xEvG_mask xml xfetch [true, true, true, true, true, true, false] ?_
      exact hQ_gift_L48 (fQ_gift_L34 g) (hQ_gift_L34 g) 20001 x0 x1 x2 x3 x4 0 M _ h
    · have h := xif_f c_ h
      refine xEvG_n xml xfetch 1 (y := (196, 117, [some (13, x0), some (0, x1), some (0, x2), some (0, x3), some (0, x4), none, none], [(0, x2)], M)) rfl trivial ?_
      cases h
      exact xEvG_ret xml xfetch rfl
/-- ConsentDoorsModel.gift(I)I -/
def fQ_gift (a0 a1 : Int) (M : xM) : Option (Int × xM) := if (fQ_isPrison a0 (xwr M a0 0 0)) = 0 then (some ((-2), (xwr M a0 0 0))) else (if (fQ_in a1 1 9 (xwr M a0 0 0)) = 0 then (some ((-2), (xwr M a0 0 0))) else (fQ_gift_L34 20001 a0 a1 (-1) 0 0 (xwr M a0 0 0)))
theorem hQ_gift (a0 a1 : Int) (M : xM) (r : Int × xM) (h : fQ_gift a0 a1 M = some r) : xEv (196, 0, [some (13, a0), some (0, a1), none, none, none, none, none], [], M) (some (0, r.1), r.2) := by
  unfold fQ_gift at h
  refine xEvG_n xml xfetch 4 (y := (196, 6, [some (13, a0), some (0, a1), none, none, none, none, none], [(13, a0)], (xwr M a0 0 0))) rfl trivial ?_
  refine xEvG_call xml xfetch (q := (some (0, fQ_isPrison a0 (xwr M a0 0 0)), (xwr M a0 0 0))) rfl (hQ_isPrison a0 (xwr M a0 0 0) _ rfl) ?_
  show xEv (196, 9, [some (13, a0), some (0, a1), none, none, none, none, none], [(0, (fQ_isPrison a0 (xwr M a0 0 0)))], (xwr M a0 0 0)) _
  refine xEvG_n xml xfetch 1 (y := (196, if (fQ_isPrison a0 (xwr M a0 0 0)) = 0 then 24 else 12, [some (13, a0), some (0, a1), none, none, none, none, none], [], (xwr M a0 0 0))) rfl trivial ?_
  refine xEvG_br xml xfetch (fun c_ => ?_) (fun c_ => ?_)
  · have h := xif_t c_ h
    refine xEvG_n xml xfetch 1 (y := (196, 26, [some (13, a0), some (0, a1), none, none, none, none, none], [(0, (-2))], (xwr M a0 0 0))) rfl trivial ?_
    cases h
    exact xEvG_ret xml xfetch rfl
  · have h := xif_f c_ h
    refine xEvG_n xml xfetch 4 (y := (196, 18, [some (13, a0), some (0, a1), none, none, none, none, none], [(1, 9), (1, 1), (1, a1)], (xwr M a0 0 0))) rfl trivial ?_
    refine xEvG_call xml xfetch (q := (some (0, fQ_in a1 1 9 (xwr M a0 0 0)), (xwr M a0 0 0))) rfl (hQ_in a1 1 9 (xwr M a0 0 0) _ rfl) ?_
    show xEv (196, 21, [some (13, a0), some (0, a1), none, none, none, none, none], [(0, (fQ_in a1 1 9 (xwr M a0 0 0)))], (xwr M a0 0 0)) _
    refine xEvG_n xml xfetch 1 (y := (196, if (fQ_in a1 1 9 (xwr M a0 0 0)) = 0 then 24 else 27, [some (13, a0), some (0, a1), none, none, none, none, none], [], (xwr M a0 0 0))) rfl trivial ?_
    refine xEvG_br xml xfetch (fun c_ => ?_) (fun c_ => ?_)
    · have h := xif_t c_ h
      refine xEvG_n xml xfetch 1 (y := (196, 26, [some (13, a0), some (0, a1), none, none, none, none, none], [(0, (-2))], (xwr M a0 0 0))) rfl trivial ?_
      cases h
      exact xEvG_ret xml xfetch rfl
    · have h := xif_f c_ h
      refine xEvG_n xml xfetch 6 (y := (196, 34, [some (13, a0), some (0, a1), some (0, (-1)), some (0, 0), some (0, 0), none, none], [], (xwr M a0 0 0))) rfl trivial ?_
      refine xEvG_mask xml xfetch [true, true, true, true, true, false, false] ?_
      exact hQ_gift_L34 20001 a0 a1 (-1) 0 0 (xwr M a0 0 0) _ h

def fQ_other_L124 (x0 x1 x2 : Int) (M : xM) : Option (Int × xM) := xB (fQ_mostNow x0 M) (fun q_ => match q_ with | (v4, m4) => if x1 = 4 then (some ((xw32 (v4 - x2)), (xwr m4 (x0 + 7) 3 (xw32 (1 - (m4 (x0 + 7) 3)))))) else (some ((xw32 (v4 - x2)), m4)))
theorem hQ_other_L124 (x0 x1 x2 : Int) (M : xM) (r : Int × xM) (h : fQ_other_L124 x0 x1 x2 M = some r) : xEv (197, 124, [some (13, x0), some (0, x1), some (0, x2), none], [], M) (some (0, r.1), r.2) := by
  unfold fQ_other_L124 at h
  refine xEvG_n xml xfetch 1 (y := (197, 125, [some (13, x0), some (0, x1), some (0, x2), none], [(13, x0)], M)) rfl trivial ?_
  obtain ⟨⟨v4, m4⟩, e_, h⟩ := xB_t h
  refine xEvG_call xml xfetch (q := (some (0, v4), m4)) rfl (hQ_mostNow x0 M _ e_) ?_
  show xEv (197, 128, [some (13, x0), some (0, x1), some (0, x2), none], [(0, v4)], m4) _
  refine xEvG_n xml xfetch 4 (y := (197, if x1 = 4 then 134 else 148, [some (13, x0), some (0, x1), some (0, x2), some (0, v4)], [], m4)) rfl trivial ?_
  refine xEvG_br xml xfetch (fun c_ => ?_) (fun c_ => ?_)
  · have h := xif_t c_ h
    refine xEvG_n xml xfetch 13 (y := (197, 151, [some (13, x0), some (0, x1), some (0, x2), some (0, v4)], [(0, (xw32 (v4 - x2)))], (xwr m4 (x0 + 7) 3 (xw32 (1 - (m4 (x0 + 7) 3)))))) rfl ⟨by decide, by decide, trivial⟩ ?_
    cases h
    exact xEvG_ret xml xfetch rfl
  · have h := xif_f c_ h
    refine xEvG_n xml xfetch 3 (y := (197, 151, [some (13, x0), some (0, x1), some (0, x2), some (0, v4)], [(0, (xw32 (v4 - x2)))], m4)) rfl trivial ?_
    cases h
    exact xEvG_ret xml xfetch rfl
/-- ConsentDoorsModel.other(I)I -/
def fQ_other (a0 a1 : Int) (M : xM) : Option (Int × xM) := if (fQ_isPrison a0 (xwr M a0 0 0)) = 0 then (some ((-1000), (xwr M a0 0 0))) else (if (fQ_in a1 0 4 (xwr M a0 0 0)) = 0 then (some ((-1000), (xwr M a0 0 0))) else (if a1 = 4 then (if ((xwr M a0 0 0) (a0 + 7) 0) = 2 then (some ((-1000), (xwr M a0 0 0))) else (xB (fQ_mostPlain a0 (xwr M a0 0 0)) (fun q_ => match q_ with | (v3, m3) => if a1 = 4 then (fQ_other_L124 a0 a1 v3 (xwr (xwr (xwr (xwr (xwr m3 a0 23 (if a1 = 0 then 1 else 0 : Int)) a0 24 (if a1 = 1 then 1 else 0 : Int)) a0 26 (if a1 = 2 then 511 else 0 : Int)) a0 25 (if a1 = 3 then 1 else 0 : Int)) (a0 + 7) 3 (xw32 (1 - ((xwr (xwr (xwr (xwr m3 a0 23 (if a1 = 0 then 1 else 0 : Int)) a0 24 (if a1 = 1 then 1 else 0 : Int)) a0 26 (if a1 = 2 then 511 else 0 : Int)) a0 25 (if a1 = 3 then 1 else 0 : Int)) (a0 + 7) 3))))) else (xB (fQ_mostNow a0 (xwr (xwr (xwr (xwr m3 a0 23 (if a1 = 0 then 1 else 0 : Int)) a0 24 (if a1 = 1 then 1 else 0 : Int)) a0 26 (if a1 = 2 then 511 else 0 : Int)) a0 25 (if a1 = 3 then 1 else 0 : Int))) (fun q_ => match q_ with | (v5, m5) => if a1 = 4 then (some ((xw32 (v5 - v3)), (xwr m5 (a0 + 7) 3 (xw32 (1 - (m5 (a0 + 7) 3)))))) else (some ((xw32 (v5 - v3)), m5))))))) else (xB (fQ_mostPlain a0 (xwr M a0 0 0)) (fun q_ => match q_ with | (v6, m6) => if a1 = 4 then (fQ_other_L124 a0 a1 v6 (xwr (xwr (xwr (xwr (xwr m6 a0 23 (if a1 = 0 then 1 else 0 : Int)) a0 24 (if a1 = 1 then 1 else 0 : Int)) a0 26 (if a1 = 2 then 511 else 0 : Int)) a0 25 (if a1 = 3 then 1 else 0 : Int)) (a0 + 7) 3 (xw32 (1 - ((xwr (xwr (xwr (xwr m6 a0 23 (if a1 = 0 then 1 else 0 : Int)) a0 24 (if a1 = 1 then 1 else 0 : Int)) a0 26 (if a1 = 2 then 511 else 0 : Int)) a0 25 (if a1 = 3 then 1 else 0 : Int)) (a0 + 7) 3))))) else (xB (fQ_mostNow a0 (xwr (xwr (xwr (xwr m6 a0 23 (if a1 = 0 then 1 else 0 : Int)) a0 24 (if a1 = 1 then 1 else 0 : Int)) a0 26 (if a1 = 2 then 511 else 0 : Int)) a0 25 (if a1 = 3 then 1 else 0 : Int))) (fun q_ => match q_ with | (v7, m7) => if a1 = 4 then (some ((xw32 (v7 - v6)), (xwr m7 (a0 + 7) 3 (xw32 (1 - (m7 (a0 + 7) 3)))))) else (some ((xw32 (v7 - v6)), m7))))))))
theorem hQ_other (a0 a1 : Int) (M : xM) (r : Int × xM) (h : fQ_other a0 a1 M = some r) : xEv (197, 0, [some (13, a0), some (0, a1), none, none], [], M) (some (0, r.1), r.2) := by
  unfold fQ_other at h
  refine xEvG_n xml xfetch 4 (y := (197, 6, [some (13, a0), some (0, a1), none, none], [(13, a0)], (xwr M a0 0 0))) rfl trivial ?_
  refine xEvG_call xml xfetch (q := (some (0, fQ_isPrison a0 (xwr M a0 0 0)), (xwr M a0 0 0))) rfl (hQ_isPrison a0 (xwr M a0 0 0) _ rfl) ?_
  show xEv (197, 9, [some (13, a0), some (0, a1), none, none], [(0, (fQ_isPrison a0 (xwr M a0 0 0)))], (xwr M a0 0 0)) _
  refine xEvG_n xml xfetch 1 (y := (197, if (fQ_isPrison a0 (xwr M a0 0 0)) = 0 then 39 else 12, [some (13, a0), some (0, a1), none, none], [], (xwr M a0 0 0))) rfl trivial ?_
  refine xEvG_br xml xfetch (fun c_ => ?_) (fun c_ => ?_)
  · have h := xif_t c_ h
    refine xEvG_n xml xfetch 1 (y := (197, 42, [some (13, a0), some (0, a1), none, none], [(0, (-1000))], (xwr M a0 0 0))) rfl trivial ?_
    cases h
    exact xEvG_ret xml xfetch rfl
  · have h := xif_f c_ h
    refine xEvG_n xml xfetch 4 (y := (197, 18, [some (13, a0), some (0, a1), none, none], [(1, 4), (1, 0), (1, a1)], (xwr M a0 0 0))) rfl trivial ?_
    refine xEvG_call xml xfetch (q := (some (0, fQ_in a1 0 4 (xwr M a0 0 0)), (xwr M a0 0 0))) rfl (hQ_in a1 0 4 (xwr M a0 0 0) _ rfl) ?_
    show xEv (197, 21, [some (13, a0), some (0, a1), none, none], [(0, (fQ_in a1 0 4 (xwr M a0 0 0)))], (xwr M a0 0 0)) _
    refine xEvG_n xml xfetch 1 (y := (197, if (fQ_in a1 0 4 (xwr M a0 0 0)) = 0 then 39 else 24, [some (13, a0), some (0, a1), none, none], [], (xwr M a0 0 0))) rfl trivial ?_
    refine xEvG_br xml xfetch (fun c_ => ?_) (fun c_ => ?_)
    · have h := xif_t c_ h
      refine xEvG_n xml xfetch 1 (y := (197, 42, [some (13, a0), some (0, a1), none, none], [(0, (-1000))], (xwr M a0 0 0))) rfl trivial ?_
      cases h
      exact xEvG_ret xml xfetch rfl
    · have h := xif_f c_ h
      refine xEvG_n xml xfetch 3 (y := (197, if a1 = 4 then 29 else 43, [some (13, a0), some (0, a1), none, none], [], (xwr M a0 0 0))) rfl trivial ?_
      refine xEvG_br xml xfetch (fun c_ => ?_) (fun c_ => ?_)
      · have h := xif_t c_ h
        refine xEvG_n xml xfetch 6 (y := (197, if ((xwr M a0 0 0) (a0 + 7) 0) = 2 then 39 else 43, [some (13, a0), some (0, a1), none, none], [], (xwr M a0 0 0))) rfl ⟨by decide, trivial⟩ ?_
        refine xEvG_br xml xfetch (fun c_ => ?_) (fun c_ => ?_)
        · have h := xif_t c_ h
          refine xEvG_n xml xfetch 1 (y := (197, 42, [some (13, a0), some (0, a1), none, none], [(0, (-1000))], (xwr M a0 0 0))) rfl trivial ?_
          cases h
          exact xEvG_ret xml xfetch rfl
        · have h := xif_f c_ h
          refine xEvG_n xml xfetch 1 (y := (197, 44, [some (13, a0), some (0, a1), none, none], [(13, a0)], (xwr M a0 0 0))) rfl trivial ?_
          obtain ⟨⟨v3, m3⟩, e_, h⟩ := xB_t h
          refine xEvG_call xml xfetch (q := (some (0, v3), m3)) rfl (hQ_mostPlain a0 (xwr M a0 0 0) _ e_) ?_
          show xEv (197, 47, [some (13, a0), some (0, a1), none, none], [(0, v3)], m3) _
          refine xEvG_n xml xfetch 3 (y := (197, 50, [some (13, a0), some (0, a1), some (0, v3), none], [(0, a1), (13, a0)], m3)) rfl trivial ?_
          have key_ : xEv (197, 58, [some (13, a0), some (0, a1), some (0, v3), none], [(0, (if a1 = 0 then 1 else 0 : Int)), (13, a0)], m3) (some (0, r.1), r.2) := by
            refine xEvG_n xml xfetch 4 (y := (197, 64, [some (13, a0), some (0, a1), some (0, v3), none], [(0, 1), (0, a1), (13, a0)], (xwr m3 a0 23 (if a1 = 0 then 1 else 0 : Int)))) rfl ⟨(by (repeat' split) <;> first | exact Or.inl rfl | exact Or.inr rfl), trivial⟩ ?_
            have key_ : xEv (197, 72, [some (13, a0), some (0, a1), some (0, v3), none], [(0, (if a1 = 1 then 1 else 0 : Int)), (13, a0)], (xwr m3 a0 23 (if a1 = 0 then 1 else 0 : Int))) (some (0, r.1), r.2) := by
              refine xEvG_n xml xfetch 4 (y := (197, 78, [some (13, a0), some (0, a1), some (0, v3), none], [(0, 2), (0, a1), (13, a0)], (xwr (xwr m3 a0 23 (if a1 = 0 then 1 else 0 : Int)) a0 24 (if a1 = 1 then 1 else 0 : Int)))) rfl ⟨(by (repeat' split) <;> first | exact Or.inl rfl | exact Or.inr rfl), trivial⟩ ?_
              have key_ : xEv (197, 88, [some (13, a0), some (0, a1), some (0, v3), none], [(0, (if a1 = 2 then 511 else 0 : Int)), (13, a0)], (xwr (xwr m3 a0 23 (if a1 = 0 then 1 else 0 : Int)) a0 24 (if a1 = 1 then 1 else 0 : Int))) (some (0, r.1), r.2) := by
                refine xEvG_n xml xfetch 4 (y := (197, 94, [some (13, a0), some (0, a1), some (0, v3), none], [(0, 3), (0, a1), (13, a0)], (xwr (xwr (xwr m3 a0 23 (if a1 = 0 then 1 else 0 : Int)) a0 24 (if a1 = 1 then 1 else 0 : Int)) a0 26 (if a1 = 2 then 511 else 0 : Int)))) rfl trivial ?_
                have key_ : xEv (197, 102, [some (13, a0), some (0, a1), some (0, v3), none], [(0, (if a1 = 3 then 1 else 0 : Int)), (13, a0)], (xwr (xwr (xwr m3 a0 23 (if a1 = 0 then 1 else 0 : Int)) a0 24 (if a1 = 1 then 1 else 0 : Int)) a0 26 (if a1 = 2 then 511 else 0 : Int))) (some (0, r.1), r.2) := by
                  refine xEvG_n xml xfetch 4 (y := (197, if a1 = 4 then 110 else 124, [some (13, a0), some (0, a1), some (0, v3), none], [], (xwr (xwr (xwr (xwr m3 a0 23 (if a1 = 0 then 1 else 0 : Int)) a0 24 (if a1 = 1 then 1 else 0 : Int)) a0 26 (if a1 = 2 then 511 else 0 : Int)) a0 25 (if a1 = 3 then 1 else 0 : Int)))) rfl ⟨(by (repeat' split) <;> first | exact Or.inl rfl | exact Or.inr rfl), trivial⟩ ?_
                  refine xEvG_br xml xfetch (fun c_ => ?_) (fun c_ => ?_)
                  · have h := xif_t c_ h
                    refine xEvG_n xml xfetch 10 (y := (197, 124, [some (13, a0), some (0, a1), some (0, v3), none], [], (xwr (xwr (xwr (xwr (xwr m3 a0 23 (if a1 = 0 then 1 else 0 : Int)) a0 24 (if a1 = 1 then 1 else 0 : Int)) a0 26 (if a1 = 2 then 511 else 0 : Int)) a0 25 (if a1 = 3 then 1 else 0 : Int)) (a0 + 7) 3 (xw32 (1 - ((xwr (xwr (xwr (xwr m3 a0 23 (if a1 = 0 then 1 else 0 : Int)) a0 24 (if a1 = 1 then 1 else 0 : Int)) a0 26 (if a1 = 2 then 511 else 0 : Int)) a0 25 (if a1 = 3 then 1 else 0 : Int)) (a0 + 7) 3)))))) rfl ⟨by decide, by decide, trivial⟩ ?_
                    refine xEvG_mask xml xfetch [true, true, true, false] ?_
                    exact hQ_other_L124 a0 a1 v3 (xwr (xwr (xwr (xwr (xwr m3 a0 23 (if a1 = 0 then 1 else 0 : Int)) a0 24 (if a1 = 1 then 1 else 0 : Int)) a0 26 (if a1 = 2 then 511 else 0 : Int)) a0 25 (if a1 = 3 then 1 else 0 : Int)) (a0 + 7) 3 (xw32 (1 - ((xwr (xwr (xwr (xwr m3 a0 23 (if a1 = 0 then 1 else 0 : Int)) a0 24 (if a1 = 1 then 1 else 0 : Int)) a0 26 (if a1 = 2 then 511 else 0 : Int)) a0 25 (if a1 = 3 then 1 else 0 : Int)) (a0 + 7) 3)))) _ h
                  · have h := xif_f c_ h
                    refine xEvG_n xml xfetch 1 (y := (197, 125, [some (13, a0), some (0, a1), some (0, v3), none], [(13, a0)], (xwr (xwr (xwr (xwr m3 a0 23 (if a1 = 0 then 1 else 0 : Int)) a0 24 (if a1 = 1 then 1 else 0 : Int)) a0 26 (if a1 = 2 then 511 else 0 : Int)) a0 25 (if a1 = 3 then 1 else 0 : Int)))) rfl trivial ?_
                    obtain ⟨⟨v5, m5⟩, e_, h⟩ := xB_t h
                    refine xEvG_call xml xfetch (q := (some (0, v5), m5)) rfl (hQ_mostNow a0 (xwr (xwr (xwr (xwr m3 a0 23 (if a1 = 0 then 1 else 0 : Int)) a0 24 (if a1 = 1 then 1 else 0 : Int)) a0 26 (if a1 = 2 then 511 else 0 : Int)) a0 25 (if a1 = 3 then 1 else 0 : Int)) _ e_) ?_
                    show xEv (197, 128, [some (13, a0), some (0, a1), some (0, v3), none], [(0, v5)], m5) _
                    refine xEvG_n xml xfetch 4 (y := (197, if a1 = 4 then 134 else 148, [some (13, a0), some (0, a1), some (0, v3), some (0, v5)], [], m5)) rfl trivial ?_
                    refine xEvG_br xml xfetch (fun c_ => ?_) (fun c_ => ?_)
                    · have h := xif_t c_ h
                      refine xEvG_n xml xfetch 13 (y := (197, 151, [some (13, a0), some (0, a1), some (0, v3), some (0, v5)], [(0, (xw32 (v5 - v3)))], (xwr m5 (a0 + 7) 3 (xw32 (1 - (m5 (a0 + 7) 3)))))) rfl ⟨by decide, by decide, trivial⟩ ?_
                      cases h
                      exact xEvG_ret xml xfetch rfl
                    · have h := xif_f c_ h
                      refine xEvG_n xml xfetch 3 (y := (197, 151, [some (13, a0), some (0, a1), some (0, v3), some (0, v5)], [(0, (xw32 (v5 - v3)))], m5)) rfl trivial ?_
                      cases h
                      exact xEvG_ret xml xfetch rfl
                refine xEvG_n xml xfetch 1 (y := (197, if a1 = 3 then 97 else 101, [some (13, a0), some (0, a1), some (0, v3), none], [(13, a0)], (xwr (xwr (xwr m3 a0 23 (if a1 = 0 then 1 else 0 : Int)) a0 24 (if a1 = 1 then 1 else 0 : Int)) a0 26 (if a1 = 2 then 511 else 0 : Int)))) rfl trivial ?_
                refine xEvG_br xml xfetch (fun c16_ => ?_) (fun c16_ => ?_)
                · refine xEvG_n xml xfetch 2 (y := (197, 102, [some (13, a0), some (0, a1), some (0, v3), none], [(0, 1), (13, a0)], (xwr (xwr (xwr m3 a0 23 (if a1 = 0 then 1 else 0 : Int)) a0 24 (if a1 = 1 then 1 else 0 : Int)) a0 26 (if a1 = 2 then 511 else 0 : Int)))) rfl trivial ?_
                  try simp only [if_pos c16_] at key_
                  try simp only [if_pos c16_]
                  exact key_
                · refine xEvG_n xml xfetch 1 (y := (197, 102, [some (13, a0), some (0, a1), some (0, v3), none], [(0, 0), (13, a0)], (xwr (xwr (xwr m3 a0 23 (if a1 = 0 then 1 else 0 : Int)) a0 24 (if a1 = 1 then 1 else 0 : Int)) a0 26 (if a1 = 2 then 511 else 0 : Int)))) rfl trivial ?_
                  try simp only [if_neg c16_] at key_
                  try simp only [if_neg c16_]
                  exact key_
              refine xEvG_n xml xfetch 1 (y := (197, if a1 = 2 then 81 else 87, [some (13, a0), some (0, a1), some (0, v3), none], [(13, a0)], (xwr (xwr m3 a0 23 (if a1 = 0 then 1 else 0 : Int)) a0 24 (if a1 = 1 then 1 else 0 : Int)))) rfl trivial ?_
              refine xEvG_br xml xfetch (fun c14_ => ?_) (fun c14_ => ?_)
              · refine xEvG_n xml xfetch 2 (y := (197, 88, [some (13, a0), some (0, a1), some (0, v3), none], [(0, 511), (13, a0)], (xwr (xwr m3 a0 23 (if a1 = 0 then 1 else 0 : Int)) a0 24 (if a1 = 1 then 1 else 0 : Int)))) rfl trivial ?_
                try simp only [if_pos c14_] at key_
                try simp only [if_pos c14_]
                exact key_
              · refine xEvG_n xml xfetch 1 (y := (197, 88, [some (13, a0), some (0, a1), some (0, v3), none], [(0, 0), (13, a0)], (xwr (xwr m3 a0 23 (if a1 = 0 then 1 else 0 : Int)) a0 24 (if a1 = 1 then 1 else 0 : Int)))) rfl trivial ?_
                try simp only [if_neg c14_] at key_
                try simp only [if_neg c14_]
                exact key_
            refine xEvG_n xml xfetch 1 (y := (197, if a1 = 1 then 67 else 71, [some (13, a0), some (0, a1), some (0, v3), none], [(13, a0)], (xwr m3 a0 23 (if a1 = 0 then 1 else 0 : Int)))) rfl trivial ?_
            refine xEvG_br xml xfetch (fun c12_ => ?_) (fun c12_ => ?_)
            · refine xEvG_n xml xfetch 2 (y := (197, 72, [some (13, a0), some (0, a1), some (0, v3), none], [(0, 1), (13, a0)], (xwr m3 a0 23 (if a1 = 0 then 1 else 0 : Int)))) rfl trivial ?_
              try simp only [if_pos c12_] at key_
              try simp only [if_pos c12_]
              exact key_
            · refine xEvG_n xml xfetch 1 (y := (197, 72, [some (13, a0), some (0, a1), some (0, v3), none], [(0, 0), (13, a0)], (xwr m3 a0 23 (if a1 = 0 then 1 else 0 : Int)))) rfl trivial ?_
              try simp only [if_neg c12_] at key_
              try simp only [if_neg c12_]
              exact key_
          refine xEvG_n xml xfetch 1 (y := (197, if a1 = 0 then 53 else 57, [some (13, a0), some (0, a1), some (0, v3), none], [(13, a0)], m3)) rfl trivial ?_
          refine xEvG_br xml xfetch (fun c10_ => ?_) (fun c10_ => ?_)
          · refine xEvG_n xml xfetch 2 (y := (197, 58, [some (13, a0), some (0, a1), some (0, v3), none], [(0, 1), (13, a0)], m3)) rfl trivial ?_
            try simp only [if_pos c10_] at key_
            try simp only [if_pos c10_]
            exact key_
          · refine xEvG_n xml xfetch 1 (y := (197, 58, [some (13, a0), some (0, a1), some (0, v3), none], [(0, 0), (13, a0)], m3)) rfl trivial ?_
            try simp only [if_neg c10_] at key_
            try simp only [if_neg c10_]
            exact key_
      · have h := xif_f c_ h
        refine xEvG_n xml xfetch 1 (y := (197, 44, [some (13, a0), some (0, a1), none, none], [(13, a0)], (xwr M a0 0 0))) rfl trivial ?_
        obtain ⟨⟨v6, m6⟩, e_, h⟩ := xB_t h
        refine xEvG_call xml xfetch (q := (some (0, v6), m6)) rfl (hQ_mostPlain a0 (xwr M a0 0 0) _ e_) ?_
        show xEv (197, 47, [some (13, a0), some (0, a1), none, none], [(0, v6)], m6) _
        refine xEvG_n xml xfetch 3 (y := (197, 50, [some (13, a0), some (0, a1), some (0, v6), none], [(0, a1), (13, a0)], m6)) rfl trivial ?_
        have key_ : xEv (197, 58, [some (13, a0), some (0, a1), some (0, v6), none], [(0, (if a1 = 0 then 1 else 0 : Int)), (13, a0)], m6) (some (0, r.1), r.2) := by
          refine xEvG_n xml xfetch 4 (y := (197, 64, [some (13, a0), some (0, a1), some (0, v6), none], [(0, 1), (0, a1), (13, a0)], (xwr m6 a0 23 (if a1 = 0 then 1 else 0 : Int)))) rfl ⟨(by (repeat' split) <;> first | exact Or.inl rfl | exact Or.inr rfl), trivial⟩ ?_
          have key_ : xEv (197, 72, [some (13, a0), some (0, a1), some (0, v6), none], [(0, (if a1 = 1 then 1 else 0 : Int)), (13, a0)], (xwr m6 a0 23 (if a1 = 0 then 1 else 0 : Int))) (some (0, r.1), r.2) := by
            refine xEvG_n xml xfetch 4 (y := (197, 78, [some (13, a0), some (0, a1), some (0, v6), none], [(0, 2), (0, a1), (13, a0)], (xwr (xwr m6 a0 23 (if a1 = 0 then 1 else 0 : Int)) a0 24 (if a1 = 1 then 1 else 0 : Int)))) rfl ⟨(by (repeat' split) <;> first | exact Or.inl rfl | exact Or.inr rfl), trivial⟩ ?_
            have key_ : xEv (197, 88, [some (13, a0), some (0, a1), some (0, v6), none], [(0, (if a1 = 2 then 511 else 0 : Int)), (13, a0)], (xwr (xwr m6 a0 23 (if a1 = 0 then 1 else 0 : Int)) a0 24 (if a1 = 1 then 1 else 0 : Int))) (some (0, r.1), r.2) := by
              refine xEvG_n xml xfetch 4 (y := (197, 94, [some (13, a0), some (0, a1), some (0, v6), none], [(0, 3), (0, a1), (13, a0)], (xwr (xwr (xwr m6 a0 23 (if a1 = 0 then 1 else 0 : Int)) a0 24 (if a1 = 1 then 1 else 0 : Int)) a0 26 (if a1 = 2 then 511 else 0 : Int)))) rfl trivial ?_
              have key_ : xEv (197, 102, [some (13, a0), some (0, a1), some (0, v6), none], [(0, (if a1 = 3 then 1 else 0 : Int)), (13, a0)], (xwr (xwr (xwr m6 a0 23 (if a1 = 0 then 1 else 0 : Int)) a0 24 (if a1 = 1 then 1 else 0 : Int)) a0 26 (if a1 = 2 then 511 else 0 : Int))) (some (0, r.1), r.2) := by
                refine xEvG_n xml xfetch 4 (y := (197, if a1 = 4 then 110 else 124, [some (13, a0), some (0, a1), some (0, v6), none], [], (xwr (xwr (xwr (xwr m6 a0 23 (if a1 = 0 then 1 else 0 : Int)) a0 24 (if a1 = 1 then 1 else 0 : Int)) a0 26 (if a1 = 2 then 511 else 0 : Int)) a0 25 (if a1 = 3 then 1 else 0 : Int)))) rfl ⟨(by (repeat' split) <;> first | exact Or.inl rfl | exact Or.inr rfl), trivial⟩ ?_
                refine xEvG_br xml xfetch (fun c_ => ?_) (fun c_ => ?_)
                · have h := xif_t c_ h
                  refine xEvG_n xml xfetch 10 (y := (197, 124, [some (13, a0), some (0, a1), some (0, v6), none], [], (xwr (xwr (xwr (xwr (xwr m6 a0 23 (if a1 = 0 then 1 else 0 : Int)) a0 24 (if a1 = 1 then 1 else 0 : Int)) a0 26 (if a1 = 2 then 511 else 0 : Int)) a0 25 (if a1 = 3 then 1 else 0 : Int)) (a0 + 7) 3 (xw32 (1 - ((xwr (xwr (xwr (xwr m6 a0 23 (if a1 = 0 then 1 else 0 : Int)) a0 24 (if a1 = 1 then 1 else 0 : Int)) a0 26 (if a1 = 2 then 511 else 0 : Int)) a0 25 (if a1 = 3 then 1 else 0 : Int)) (a0 + 7) 3)))))) rfl ⟨by decide, by decide, trivial⟩ ?_
                  refine xEvG_mask xml xfetch [true, true, true, false] ?_
                  exact hQ_other_L124 a0 a1 v6 (xwr (xwr (xwr (xwr (xwr m6 a0 23 (if a1 = 0 then 1 else 0 : Int)) a0 24 (if a1 = 1 then 1 else 0 : Int)) a0 26 (if a1 = 2 then 511 else 0 : Int)) a0 25 (if a1 = 3 then 1 else 0 : Int)) (a0 + 7) 3 (xw32 (1 - ((xwr (xwr (xwr (xwr m6 a0 23 (if a1 = 0 then 1 else 0 : Int)) a0 24 (if a1 = 1 then 1 else 0 : Int)) a0 26 (if a1 = 2 then 511 else 0 : Int)) a0 25 (if a1 = 3 then 1 else 0 : Int)) (a0 + 7) 3)))) _ h
                · have h := xif_f c_ h
                  refine xEvG_n xml xfetch 1 (y := (197, 125, [some (13, a0), some (0, a1), some (0, v6), none], [(13, a0)], (xwr (xwr (xwr (xwr m6 a0 23 (if a1 = 0 then 1 else 0 : Int)) a0 24 (if a1 = 1 then 1 else 0 : Int)) a0 26 (if a1 = 2 then 511 else 0 : Int)) a0 25 (if a1 = 3 then 1 else 0 : Int)))) rfl trivial ?_
                  obtain ⟨⟨v7, m7⟩, e_, h⟩ := xB_t h
                  refine xEvG_call xml xfetch (q := (some (0, v7), m7)) rfl (hQ_mostNow a0 (xwr (xwr (xwr (xwr m6 a0 23 (if a1 = 0 then 1 else 0 : Int)) a0 24 (if a1 = 1 then 1 else 0 : Int)) a0 26 (if a1 = 2 then 511 else 0 : Int)) a0 25 (if a1 = 3 then 1 else 0 : Int)) _ e_) ?_
                  show xEv (197, 128, [some (13, a0), some (0, a1), some (0, v6), none], [(0, v7)], m7) _
                  refine xEvG_n xml xfetch 4 (y := (197, if a1 = 4 then 134 else 148, [some (13, a0), some (0, a1), some (0, v6), some (0, v7)], [], m7)) rfl trivial ?_
                  refine xEvG_br xml xfetch (fun c_ => ?_) (fun c_ => ?_)
                  · have h := xif_t c_ h
                    refine xEvG_n xml xfetch 13 (y := (197, 151, [some (13, a0), some (0, a1), some (0, v6), some (0, v7)], [(0, (xw32 (v7 - v6)))], (xwr m7 (a0 + 7) 3 (xw32 (1 - (m7 (a0 + 7) 3)))))) rfl ⟨by decide, by decide, trivial⟩ ?_
                    cases h
                    exact xEvG_ret xml xfetch rfl
                  · have h := xif_f c_ h
                    refine xEvG_n xml xfetch 3 (y := (197, 151, [some (13, a0), some (0, a1), some (0, v6), some (0, v7)], [(0, (xw32 (v7 - v6)))], m7)) rfl trivial ?_
                    cases h
                    exact xEvG_ret xml xfetch rfl
              refine xEvG_n xml xfetch 1 (y := (197, if a1 = 3 then 97 else 101, [some (13, a0), some (0, a1), some (0, v6), none], [(13, a0)], (xwr (xwr (xwr m6 a0 23 (if a1 = 0 then 1 else 0 : Int)) a0 24 (if a1 = 1 then 1 else 0 : Int)) a0 26 (if a1 = 2 then 511 else 0 : Int)))) rfl trivial ?_
              refine xEvG_br xml xfetch (fun c14_ => ?_) (fun c14_ => ?_)
              · refine xEvG_n xml xfetch 2 (y := (197, 102, [some (13, a0), some (0, a1), some (0, v6), none], [(0, 1), (13, a0)], (xwr (xwr (xwr m6 a0 23 (if a1 = 0 then 1 else 0 : Int)) a0 24 (if a1 = 1 then 1 else 0 : Int)) a0 26 (if a1 = 2 then 511 else 0 : Int)))) rfl trivial ?_
                try simp only [if_pos c14_] at key_
                try simp only [if_pos c14_]
                exact key_
              · refine xEvG_n xml xfetch 1 (y := (197, 102, [some (13, a0), some (0, a1), some (0, v6), none], [(0, 0), (13, a0)], (xwr (xwr (xwr m6 a0 23 (if a1 = 0 then 1 else 0 : Int)) a0 24 (if a1 = 1 then 1 else 0 : Int)) a0 26 (if a1 = 2 then 511 else 0 : Int)))) rfl trivial ?_
                try simp only [if_neg c14_] at key_
                try simp only [if_neg c14_]
                exact key_
            refine xEvG_n xml xfetch 1 (y := (197, if a1 = 2 then 81 else 87, [some (13, a0), some (0, a1), some (0, v6), none], [(13, a0)], (xwr (xwr m6 a0 23 (if a1 = 0 then 1 else 0 : Int)) a0 24 (if a1 = 1 then 1 else 0 : Int)))) rfl trivial ?_
            refine xEvG_br xml xfetch (fun c12_ => ?_) (fun c12_ => ?_)
            · refine xEvG_n xml xfetch 2 (y := (197, 88, [some (13, a0), some (0, a1), some (0, v6), none], [(0, 511), (13, a0)], (xwr (xwr m6 a0 23 (if a1 = 0 then 1 else 0 : Int)) a0 24 (if a1 = 1 then 1 else 0 : Int)))) rfl trivial ?_
              try simp only [if_pos c12_] at key_
              try simp only [if_pos c12_]
              exact key_
            · refine xEvG_n xml xfetch 1 (y := (197, 88, [some (13, a0), some (0, a1), some (0, v6), none], [(0, 0), (13, a0)], (xwr (xwr m6 a0 23 (if a1 = 0 then 1 else 0 : Int)) a0 24 (if a1 = 1 then 1 else 0 : Int)))) rfl trivial ?_
              try simp only [if_neg c12_] at key_
              try simp only [if_neg c12_]
              exact key_
          refine xEvG_n xml xfetch 1 (y := (197, if a1 = 1 then 67 else 71, [some (13, a0), some (0, a1), some (0, v6), none], [(13, a0)], (xwr m6 a0 23 (if a1 = 0 then 1 else 0 : Int)))) rfl trivial ?_
          refine xEvG_br xml xfetch (fun c10_ => ?_) (fun c10_ => ?_)
          · refine xEvG_n xml xfetch 2 (y := (197, 72, [some (13, a0), some (0, a1), some (0, v6), none], [(0, 1), (13, a0)], (xwr m6 a0 23 (if a1 = 0 then 1 else 0 : Int)))) rfl trivial ?_
            try simp only [if_pos c10_] at key_
            try simp only [if_pos c10_]
            exact key_
          · refine xEvG_n xml xfetch 1 (y := (197, 72, [some (13, a0), some (0, a1), some (0, v6), none], [(0, 0), (13, a0)], (xwr m6 a0 23 (if a1 = 0 then 1 else 0 : Int)))) rfl trivial ?_
            try simp only [if_neg c10_] at key_
            try simp only [if_neg c10_]
            exact key_
        refine xEvG_n xml xfetch 1 (y := (197, if a1 = 0 then 53 else 57, [some (13, a0), some (0, a1), some (0, v6), none], [(13, a0)], m6)) rfl trivial ?_
        refine xEvG_br xml xfetch (fun c8_ => ?_) (fun c8_ => ?_)
        · refine xEvG_n xml xfetch 2 (y := (197, 58, [some (13, a0), some (0, a1), some (0, v6), none], [(0, 1), (13, a0)], m6)) rfl trivial ?_
          try simp only [if_pos c8_] at key_
          try simp only [if_pos c8_]
          exact key_
        · refine xEvG_n xml xfetch 1 (y := (197, 58, [some (13, a0), some (0, a1), some (0, v6), none], [(0, 0), (13, a0)], m6)) rfl trivial ?_
          try simp only [if_neg c8_] at key_
          try simp only [if_neg c8_]
          exact key_

def fQ_doorsIn_L5 : Nat → Int → Int → Int → Int → Int → xM → Option Int
  | 0, _, _, _, _, _, _ => none
  | g + 1, x0, x1, x2, x3, x4, M => if x4 < (M (x0 + 7) 0) then (xB (fQ_opensIf x0 x4 x1 x2 M) (fun v1 => if v1 = 0 then ((fQ_doorsIn_L5 g) x0 x1 x2 (xor32 x3 0) (xw32 (x4 + 1)) M) else ((fQ_doorsIn_L5 g) x0 x1 x2 (xor32 x3 (xshl 1 x4)) (xw32 (x4 + 1)) M))) else (some x3)
theorem hQ_doorsIn_L5 : ∀ (g : Nat) (x0 x1 x2 x3 x4 : Int) (M : xM) (r : Int) (h : fQ_doorsIn_L5 g x0 x1 x2 x3 x4 M = some r), xEv (198, 5, [some (13, x0), some (0, x1), some (0, x2), some (0, x3), some (0, x4)], [], M) (some (0, r), M)
  | 0, _, _, _, _, _, _, _, h => by cases h
  | g + 1, x0, x1, x2, x3, x4, M, r, h => by
    unfold fQ_doorsIn_L5 at h
    refine xEvG_n xml xfetch 6 (y := (198, if x4 < (M (x0 + 7) 0) then 16 else 44, [some (13, x0), some (0, x1), some (0, x2), some (0, x3), some (0, x4)], [], M)) rfl ⟨by decide, trivial⟩ ?_
    refine xEvG_br xml xfetch (fun c_ => ?_) (fun c_ => ?_)
    · have h := xif_t c_ h
      refine xEvG_n xml xfetch 5 (y := (198, 22, [some (13, x0), some (0, x1), some (0, x2), some (0, x3), some (0, x4)], [(0, x2), (0, x1), (0, x4), (13, x0), (0, x3)], M)) rfl trivial ?_
      obtain ⟨v1, e_, h⟩ := xB_t h
      refine xEvG_call xml xfetch (q := (some (0, v1), M)) rfl (hQ_opensIf x0 x4 x1 x2 M _ e_) ?_
      show xEv (198, 25, [some (13, x0), some (0, x1), some (0, x2), some (0, x3), some (0, x4)], [(0, v1), (0, x3)], M) _
      refine xEvG_n xml xfetch 1 (y := (198, if v1 = 0 then 35 else 28, [some (13, x0), some (0, x1), some (0, x2), some (0, x3), some (0, x4)], [(0, x3)], M)) rfl trivial ?_
      refine xEvG_br xml xfetch (fun c_ => ?_) (fun c_ => ?_)
      · have h := xif_t c_ h
        refine xEvG_n xml xfetch 5 (y := (198, 5, [some (13, x0), some (0, x1), some (0, x2), some (0, (xor32 x3 0)), some (0, (xw32 (x4 + 1)))], [], M)) rfl trivial ?_
        refine xEvG_mask xml xfetch [true, true, true, true, true] ?_
        exact (hQ_doorsIn_L5 g) x0 x1 x2 (xor32 x3 0) (xw32 (x4 + 1)) M _ h
      · have h := xif_f c_ h
        refine xEvG_n xml xfetch 8 (y := (198, 5, [some (13, x0), some (0, x1), some (0, x2), some (0, (xor32 x3 (xshl 1 x4))), some (0, (xw32 (x4 + 1)))], [], M)) rfl trivial ?_
        refine xEvG_mask xml xfetch [true, true, true, true, true] ?_
        exact (hQ_doorsIn_L5 g) x0 x1 x2 (xor32 x3 (xshl 1 x4)) (xw32 (x4 + 1)) M _ h
    · have h := xif_f c_ h
      refine xEvG_n xml xfetch 1 (y := (198, 45, [some (13, x0), some (0, x1), some (0, x2), some (0, x3), some (0, x4)], [(0, x3)], M)) rfl trivial ?_
      cases h
      exact xEvG_ret xml xfetch rfl
/-- ConsentDoorsModel.doorsIn(II)I -/
def fQ_doorsIn (a0 a1 a2 : Int) (M : xM) : Option Int := fQ_doorsIn_L5 20001 a0 a1 a2 0 0 M
theorem hQ_doorsIn (a0 a1 a2 : Int) (M : xM) (r : Int) (h : fQ_doorsIn a0 a1 a2 M = some r) : xEv (198, 0, [some (13, a0), some (0, a1), some (0, a2), none, none], [], M) (some (0, r), M) := by
  unfold fQ_doorsIn at h
  refine xEvG_n xml xfetch 4 (y := (198, 5, [some (13, a0), some (0, a1), some (0, a2), some (0, 0), some (0, 0)], [], M)) rfl trivial ?_
  refine xEvG_mask xml xfetch [true, true, true, true, true] ?_
  exact hQ_doorsIn_L5 20001 a0 a1 a2 0 0 M _ h

/-- ConsentDoorsModel.doors(I)I -/
def fQ_doors (a0 a1 : Int) (M : xM) : Option (Int × xM) := if (fQ_isHour a0 a1 (xwr M a0 0 0)) = 0 then (some ((-2), (xwr M a0 0 0))) else (xB (fQ_asTold a0 (xwr M a0 0 0)) (fun m2 => xB (fQ_outAhead a0 a1 m2) (fun v3 => xB (fQ_doorsIn a0 a1 v3 m2) (fun v4 => some (v4, m2)))))
theorem hQ_doors (a0 a1 : Int) (M : xM) (r : Int × xM) (h : fQ_doors a0 a1 M = some r) : xEv (199, 0, [some (13, a0), some (0, a1)], [], M) (some (0, r.1), r.2) := by
  unfold fQ_doors at h
  refine xEvG_n xml xfetch 6 (y := (199, 8, [some (13, a0), some (0, a1)], [(1, a1), (13, a0)], (xwr M a0 0 0))) rfl trivial ?_
  refine xEvG_call xml xfetch (q := (some (0, fQ_isHour a0 a1 (xwr M a0 0 0)), (xwr M a0 0 0))) rfl (hQ_isHour a0 a1 (xwr M a0 0 0) _ rfl) ?_
  show xEv (199, 11, [some (13, a0), some (0, a1)], [(0, (fQ_isHour a0 a1 (xwr M a0 0 0)))], (xwr M a0 0 0)) _
  refine xEvG_n xml xfetch 1 (y := (199, if (fQ_isHour a0 a1 (xwr M a0 0 0)) = 0 then 14 else 17, [some (13, a0), some (0, a1)], [], (xwr M a0 0 0))) rfl trivial ?_
  refine xEvG_br xml xfetch (fun c_ => ?_) (fun c_ => ?_)
  · have h := xif_t c_ h
    refine xEvG_n xml xfetch 1 (y := (199, 16, [some (13, a0), some (0, a1)], [(0, (-2))], (xwr M a0 0 0))) rfl trivial ?_
    cases h
    exact xEvG_ret xml xfetch rfl
  · have h := xif_f c_ h
    refine xEvG_n xml xfetch 1 (y := (199, 18, [some (13, a0), some (0, a1)], [(13, a0)], (xwr M a0 0 0))) rfl trivial ?_
    obtain ⟨m2, e_, h⟩ := xB_t h
    refine xEvG_call xml xfetch (q := (none, m2)) rfl (hQ_asTold a0 (xwr M a0 0 0) _ e_) ?_
    show xEv (199, 21, [some (13, a0), some (0, a1)], [], m2) _
    refine xEvG_n xml xfetch 4 (y := (199, 25, [some (13, a0), some (0, a1)], [(0, a1), (13, a0), (0, a1), (13, a0)], m2)) rfl trivial ?_
    obtain ⟨v3, e_, h⟩ := xB_t h
    refine xEvG_call xml xfetch (q := (some (0, v3), m2)) rfl (hQ_outAhead a0 a1 m2 _ e_) ?_
    show xEv (199, 28, [some (13, a0), some (0, a1)], [(0, v3), (0, a1), (13, a0)], m2) _
    obtain ⟨v4, e_, h⟩ := xB_t h
    refine xEvG_call xml xfetch (q := (some (0, v4), m2)) rfl (hQ_doorsIn a0 a1 v3 m2 _ e_) ?_
    show xEv (199, 31, [some (13, a0), some (0, a1)], [(0, v4)], m2) _
    cases h
    exact xEvG_ret xml xfetch rfl

def fQ_idle_L23 : Nat → Int → Int → Int → xM → Option (Int × xM)
  | 0, _, _, _, _ => none
  | g + 1, x0, x1, x2, M => if x2 < (M (x0 + 7) 1) then (xA (0 ≤ x2 ∧ x2 < 24) (if (M (x0 + 15) x2) = (-1) then (xB (fQ_outAhead x0 x2 M) (fun v3 => xB (fQ_doorsIn x0 x2 v3 M) (fun v4 => if v4 = 0 then ((fQ_idle_L23 g) x0 (xw32 (x1 + 0)) (xw32 (x2 + 1)) M) else ((fQ_idle_L23 g) x0 (xw32 (x1 + 1)) (xw32 (x2 + 1)) M)))) else ((fQ_idle_L23 g) x0 (xw32 (x1 + 0)) (xw32 (x2 + 1)) M))) else (some (x1, M))
theorem hQ_idle_L23 : ∀ (g : Nat) (x0 x1 x2 : Int) (M : xM) (r : Int × xM) (h : fQ_idle_L23 g x0 x1 x2 M = some r), xEv (200, 23, [some (13, x0), some (0, x1), some (0, x2)], [], M) (some (0, r.1), r.2)
  | 0, _, _, _, _, _, h => by cases h
  | g + 1, x0, x1, x2, M, r, h => by
    unfold fQ_idle_L23 at h
    refine xEvG_n xml xfetch 6 (y := (200, if x2 < (M (x0 + 7) 1) then 33 else 70, [some (13, x0), some (0, x1), some (0, x2)], [], M)) rfl ⟨by decide, trivial⟩ ?_
    refine xEvG_br xml xfetch (fun c_ => ?_) (fun c_ => ?_)
    · have h := xif_t c_ h
      have a0_ := (xA_t h).1
      have h := (xA_t h).2
      refine xEvG_n xml xfetch 7 (y := (200, if (M (x0 + 15) x2) = (-1) then 44 else 61, [some (13, x0), some (0, x1), some (0, x2)], [(0, x1)], M)) rfl ⟨a0_, trivial⟩ ?_
      refine xEvG_br xml xfetch (fun c_ => ?_) (fun c_ => ?_)
      · have h := xif_t c_ h
        refine xEvG_n xml xfetch 4 (y := (200, 48, [some (13, x0), some (0, x1), some (0, x2)], [(0, x2), (13, x0), (0, x2), (13, x0), (0, x1)], M)) rfl trivial ?_
        obtain ⟨v3, e_, h⟩ := xB_t h
        refine xEvG_call xml xfetch (q := (some (0, v3), M)) rfl (hQ_outAhead x0 x2 M _ e_) ?_
        show xEv (200, 51, [some (13, x0), some (0, x1), some (0, x2)], [(0, v3), (0, x2), (13, x0), (0, x1)], M) _
        obtain ⟨v4, e_, h⟩ := xB_t h
        refine xEvG_call xml xfetch (q := (some (0, v4), M)) rfl (hQ_doorsIn x0 x2 v3 M _ e_) ?_
        show xEv (200, 54, [some (13, x0), some (0, x1), some (0, x2)], [(0, v4), (0, x1)], M) _
        refine xEvG_n xml xfetch 1 (y := (200, if v4 = 0 then 61 else 57, [some (13, x0), some (0, x1), some (0, x2)], [(0, x1)], M)) rfl trivial ?_
        refine xEvG_br xml xfetch (fun c_ => ?_) (fun c_ => ?_)
        · have h := xif_t c_ h
          refine xEvG_n xml xfetch 5 (y := (200, 23, [some (13, x0), some (0, (xw32 (x1 + 0))), some (0, (xw32 (x2 + 1)))], [], M)) rfl trivial ?_
          refine xEvG_mask xml xfetch [true, true, true] ?_
          exact (hQ_idle_L23 g) x0 (xw32 (x1 + 0)) (xw32 (x2 + 1)) M _ h
        · have h := xif_f c_ h
          refine xEvG_n xml xfetch 6 (y := (200, 23, [some (13, x0), some (0, (xw32 (x1 + 1))), some (0, (xw32 (x2 + 1)))], [], M)) rfl trivial ?_
          refine xEvG_mask xml xfetch [true, true, true] ?_
          exact (hQ_idle_L23 g) x0 (xw32 (x1 + 1)) (xw32 (x2 + 1)) M _ h
      · have h := xif_f c_ h
        refine xEvG_n xml xfetch 5 (y := (200, 23, [some (13, x0), some (0, (xw32 (x1 + 0))), some (0, (xw32 (x2 + 1)))], [], M)) rfl trivial ?_
        refine xEvG_mask xml xfetch [true, true, true] ?_
        exact (hQ_idle_L23 g) x0 (xw32 (x1 + 0)) (xw32 (x2 + 1)) M _ h
    · have h := xif_f c_ h
      refine xEvG_n xml xfetch 1 (y := (200, 71, [some (13, x0), some (0, x1), some (0, x2)], [(0, x1)], M)) rfl trivial ?_
      cases h
      exact xEvG_ret xml xfetch rfl
/-- ConsentDoorsModel.idle()I -/
def fQ_idle (a0 : Int) (M : xM) : Option (Int × xM) := if (fQ_isPrison a0 (xwr M a0 0 0)) = 0 then (some ((-2), (xwr M a0 0 0))) else (xB (fQ_asTold a0 (xwr M a0 0 0)) (fun m2 => fQ_idle_L23 20001 a0 0 0 m2))
theorem hQ_idle (a0 : Int) (M : xM) (r : Int × xM) (h : fQ_idle a0 M = some r) : xEv (200, 0, [some (13, a0), none, none], [], M) (some (0, r.1), r.2) := by
  unfold fQ_idle at h
  refine xEvG_n xml xfetch 4 (y := (200, 6, [some (13, a0), none, none], [(13, a0)], (xwr M a0 0 0))) rfl trivial ?_
  refine xEvG_call xml xfetch (q := (some (0, fQ_isPrison a0 (xwr M a0 0 0)), (xwr M a0 0 0))) rfl (hQ_isPrison a0 (xwr M a0 0 0) _ rfl) ?_
  show xEv (200, 9, [some (13, a0), none, none], [(0, (fQ_isPrison a0 (xwr M a0 0 0)))], (xwr M a0 0 0)) _
  refine xEvG_n xml xfetch 1 (y := (200, if (fQ_isPrison a0 (xwr M a0 0 0)) = 0 then 12 else 15, [some (13, a0), none, none], [], (xwr M a0 0 0))) rfl trivial ?_
  refine xEvG_br xml xfetch (fun c_ => ?_) (fun c_ => ?_)
  · have h := xif_t c_ h
    refine xEvG_n xml xfetch 1 (y := (200, 14, [some (13, a0), none, none], [(0, (-2))], (xwr M a0 0 0))) rfl trivial ?_
    cases h
    exact xEvG_ret xml xfetch rfl
  · have h := xif_f c_ h
    refine xEvG_n xml xfetch 1 (y := (200, 16, [some (13, a0), none, none], [(13, a0)], (xwr M a0 0 0))) rfl trivial ?_
    obtain ⟨m2, e_, h⟩ := xB_t h
    refine xEvG_call xml xfetch (q := (none, m2)) rfl (hQ_asTold a0 (xwr M a0 0 0) _ e_) ?_
    show xEv (200, 19, [some (13, a0), none, none], [], m2) _
    refine xEvG_n xml xfetch 4 (y := (200, 23, [some (13, a0), some (0, 0), some (0, 0)], [], m2)) rfl trivial ?_
    refine xEvG_mask xml xfetch [true, true, true] ?_
    exact hQ_idle_L23 20001 a0 0 0 m2 _ h

def fQ_wanted_L38 (k_25 : Int → Int → Int → Int → xM → Option (Int × xM)) : Nat → Int → Int → Int → Int → Int → xM → Option (Int × xM)
  | 0, _, _, _, _, _, _ => none
  | g + 1, x0, x1, x2, x3, x4, M => if x4 < 2 then (xB (fQ_besideIn x0 0 x1 x4 M) (fun v3 => if v3 = (-1) then ((fQ_wanted_L38 k_25 g) x0 x1 (xw32 (x2 + 0)) x3 (xw32 (x4 + 1)) M) else (xB (fQ_turns x0 v3 (xw32 (1 - x4)) x3 0 M) (fun v4 => if v4 = 0 then (xB (fQ_turns x0 v3 x4 x3 0 M) (fun v5 => if v5 = 0 then ((fQ_wanted_L38 k_25 g) x0 x1 (xw32 (x2 + 0)) x3 (xw32 (x4 + 1)) M) else ((fQ_wanted_L38 k_25 g) x0 x1 (xw32 (x2 + 1)) x3 (xw32 (x4 + 1)) M))) else ((fQ_wanted_L38 k_25 g) x0 x1 (xw32 (x2 + 0)) x3 (xw32 (x4 + 1)) M))))) else (k_25 x0 x1 x2 (xw32 (x3 + 1)) M)
theorem hQ_wanted_L38 (k_25 : Int → Int → Int → Int → xM → Option (Int × xM)) (hk_25 : ∀ (x0 x1 x2 x3 : Int) (M : xM) (r : Int × xM), k_25 x0 x1 x2 x3 M = some r → xEv (201, 25, [some (13, x0), some (0, x1), some (0, x2), some (0, x3), none, none], [], M) (some (0, r.1), r.2)) : ∀ (g : Nat) (x0 x1 x2 x3 x4 : Int) (M : xM) (r : Int × xM) (h : fQ_wanted_L38 k_25 g x0 x1 x2 x3 x4 M = some r), xEv (201, 38, [some (13, x0), some (0, x1), some (0, x2), some (0, x3), some (0, x4), none], [], M) (some (0, r.1), r.2)
  | 0, _, _, _, _, _, _, _, h => by cases h
  | g + 1, x0, x1, x2, x3, x4, M, r, h => by
    unfold fQ_wanted_L38 at h
    refine xEvG_n xml xfetch 3 (y := (201, if x4 < 2 then 44 else 102, [some (13, x0), some (0, x1), some (0, x2), some (0, x3), some (0, x4), none], [], M)) rfl trivial ?_
    refine xEvG_br xml xfetch (fun c_ => ?_) (fun c_ => ?_)
    · have h := xif_t c_ h
      refine xEvG_n xml xfetch 4 (y := (201, 49, [some (13, x0), some (0, x1), some (0, x2), some (0, x3), some (0, x4), none], [(0, x4), (0, x1), (0, 0), (13, x0)], M)) rfl trivial ?_
      obtain ⟨v3, e_, h⟩ := xB_t h
      refine xEvG_call xml xfetch (q := (some (0, v3), M)) rfl (hQ_besideIn x0 0 x1 x4 M _ e_) ?_
      show xEv (201, 52, [some (13, x0), some (0, x1), some (0, x2), some (0, x3), some (0, x4), none], [(0, v3)], M) _
      refine xEvG_n xml xfetch 5 (y := (201, if v3 = (-1) then 93 else 61, [some (13, x0), some (0, x1), some (0, x2), some (0, x3), some (0, x4), some (0, v3)], [(0, x2)], M)) rfl trivial ?_
      refine xEvG_br xml xfetch (fun c_ => ?_) (fun c_ => ?_)
      · have h := xif_t c_ h
        refine xEvG_n xml xfetch 5 (y := (201, 38, [some (13, x0), some (0, x1), some (0, (xw32 (x2 + 0))), some (0, x3), some (0, (xw32 (x4 + 1))), some (0, v3)], [], M)) rfl trivial ?_
        refine xEvG_mask xml xfetch [true, true, true, true, true, false] ?_
        exact (hQ_wanted_L38 k_25 hk_25 g) x0 x1 (xw32 (x2 + 0)) x3 (xw32 (x4 + 1)) M _ h
      · have h := xif_f c_ h
        refine xEvG_n xml xfetch 7 (y := (201, 70, [some (13, x0), some (0, x1), some (0, x2), some (0, x3), some (0, x4), some (0, v3)], [(0, 0), (0, x3), (0, (xw32 (1 - x4))), (0, v3), (13, x0), (0, x2)], M)) rfl trivial ?_
        obtain ⟨v4, e_, h⟩ := xB_t h
        refine xEvG_call xml xfetch (q := (some (0, v4), M)) rfl (hQ_turns x0 v3 (xw32 (1 - x4)) x3 0 M _ e_) ?_
        show xEv (201, 73, [some (13, x0), some (0, x1), some (0, x2), some (0, x3), some (0, x4), some (0, v3)], [(0, v4), (0, x2)], M) _
        refine xEvG_n xml xfetch 1 (y := (201, if v4 = 0 then 76 else 93, [some (13, x0), some (0, x1), some (0, x2), some (0, x3), some (0, x4), some (0, v3)], [(0, x2)], M)) rfl trivial ?_
        refine xEvG_br xml xfetch (fun c_ => ?_) (fun c_ => ?_)
        · have h := xif_t c_ h
          refine xEvG_n xml xfetch 5 (y := (201, 83, [some (13, x0), some (0, x1), some (0, x2), some (0, x3), some (0, x4), some (0, v3)], [(0, 0), (0, x3), (0, x4), (0, v3), (13, x0), (0, x2)], M)) rfl trivial ?_
          obtain ⟨v5, e_, h⟩ := xB_t h
          refine xEvG_call xml xfetch (q := (some (0, v5), M)) rfl (hQ_turns x0 v3 x4 x3 0 M _ e_) ?_
          show xEv (201, 86, [some (13, x0), some (0, x1), some (0, x2), some (0, x3), some (0, x4), some (0, v3)], [(0, v5), (0, x2)], M) _
          refine xEvG_n xml xfetch 1 (y := (201, if v5 = 0 then 93 else 89, [some (13, x0), some (0, x1), some (0, x2), some (0, x3), some (0, x4), some (0, v3)], [(0, x2)], M)) rfl trivial ?_
          refine xEvG_br xml xfetch (fun c_ => ?_) (fun c_ => ?_)
          · have h := xif_t c_ h
            refine xEvG_n xml xfetch 5 (y := (201, 38, [some (13, x0), some (0, x1), some (0, (xw32 (x2 + 0))), some (0, x3), some (0, (xw32 (x4 + 1))), some (0, v3)], [], M)) rfl trivial ?_
            refine xEvG_mask xml xfetch [true, true, true, true, true, false] ?_
            exact (hQ_wanted_L38 k_25 hk_25 g) x0 x1 (xw32 (x2 + 0)) x3 (xw32 (x4 + 1)) M _ h
          · have h := xif_f c_ h
            refine xEvG_n xml xfetch 6 (y := (201, 38, [some (13, x0), some (0, x1), some (0, (xw32 (x2 + 1))), some (0, x3), some (0, (xw32 (x4 + 1))), some (0, v3)], [], M)) rfl trivial ?_
            refine xEvG_mask xml xfetch [true, true, true, true, true, false] ?_
            exact (hQ_wanted_L38 k_25 hk_25 g) x0 x1 (xw32 (x2 + 1)) x3 (xw32 (x4 + 1)) M _ h
        · have h := xif_f c_ h
          refine xEvG_n xml xfetch 5 (y := (201, 38, [some (13, x0), some (0, x1), some (0, (xw32 (x2 + 0))), some (0, x3), some (0, (xw32 (x4 + 1))), some (0, v3)], [], M)) rfl trivial ?_
          refine xEvG_mask xml xfetch [true, true, true, true, true, false] ?_
          exact (hQ_wanted_L38 k_25 hk_25 g) x0 x1 (xw32 (x2 + 0)) x3 (xw32 (x4 + 1)) M _ h
    · have h := xif_f c_ h
      refine xEvG_n xml xfetch 2 (y := (201, 25, [some (13, x0), some (0, x1), some (0, x2), some (0, (xw32 (x3 + 1))), some (0, x4), none], [], M)) rfl trivial ?_
      refine xEvG_mask xml xfetch [true, true, true, true, false, false] ?_
      exact hk_25 x0 x1 x2 (xw32 (x3 + 1)) M _ h
def fQ_wanted_L25 : Nat → Int → Int → Int → Int → xM → Option (Int × xM)
  | 0, _, _, _, _, _ => none
  | g + 1, x0, x1, x2, x3, M => if x3 < (M (x0 + 7) 1) then (fQ_wanted_L38 (fQ_wanted_L25 g) 20001 x0 x1 x2 x3 0 M) else (some (x2, M))
theorem hQ_wanted_L25 : ∀ (g : Nat) (x0 x1 x2 x3 : Int) (M : xM) (r : Int × xM) (h : fQ_wanted_L25 g x0 x1 x2 x3 M = some r), xEv (201, 25, [some (13, x0), some (0, x1), some (0, x2), some (0, x3), none, none], [], M) (some (0, r.1), r.2)
  | 0, _, _, _, _, _, _, h => by cases h
  | g + 1, x0, x1, x2, x3, M, r, h => by
    unfold fQ_wanted_L25 at h
    refine xEvG_n xml xfetch 6 (y := (201, if x3 < (M (x0 + 7) 1) then 35 else 108, [some (13, x0), some (0, x1), some (0, x2), some (0, x3), none, none], [], M)) rfl ⟨by decide, trivial⟩ ?_
    refine xEvG_br xml xfetch (fun c_ => ?_) (fun c_ => ?_)
    · have h := xif_t c_ h
      refine xEvG_n xml xfetch 2 (y := (201, 38, [some (13, x0), some (0, x1), some (0, x2), some (0, x3), some (0, 0), none], [], M)) rfl trivial ?_
      refine xEvG_mask xml xfetch [true, true, true, true, true, false] ?_
      exact hQ_wanted_L38 (fQ_wanted_L25 g) (hQ_wanted_L25 g) 20001 x0 x1 x2 x3 0 M _ h
    · have h := xif_f c_ h
      refine xEvG_n xml xfetch 1 (y := (201, 109, [some (13, x0), some (0, x1), some (0, x2), some (0, x3), none, none], [(0, x2)], M)) rfl trivial ?_
      cases h
      exact xEvG_ret xml xfetch rfl
/-- ConsentDoorsModel.wanted(I)I -/
def fQ_wanted (a0 a1 : Int) (M : xM) : Option (Int × xM) := if (fQ_isCell a0 a1 (xwr M a0 0 0)) = 0 then (some ((-2), (xwr M a0 0 0))) else (xB (fQ_lays a0 (xwr M a0 0 0)) (fun m2 => fQ_wanted_L25 20001 a0 a1 0 0 m2))
theorem hQ_wanted (a0 a1 : Int) (M : xM) (r : Int × xM) (h : fQ_wanted a0 a1 M = some r) : xEv (201, 0, [some (13, a0), some (0, a1), none, none, none, none], [], M) (some (0, r.1), r.2) := by
  unfold fQ_wanted at h
  refine xEvG_n xml xfetch 6 (y := (201, 8, [some (13, a0), some (0, a1), none, none, none, none], [(1, a1), (13, a0)], (xwr M a0 0 0))) rfl trivial ?_
  refine xEvG_call xml xfetch (q := (some (0, fQ_isCell a0 a1 (xwr M a0 0 0)), (xwr M a0 0 0))) rfl (hQ_isCell a0 a1 (xwr M a0 0 0) _ rfl) ?_
  show xEv (201, 11, [some (13, a0), some (0, a1), none, none, none, none], [(0, (fQ_isCell a0 a1 (xwr M a0 0 0)))], (xwr M a0 0 0)) _
  refine xEvG_n xml xfetch 1 (y := (201, if (fQ_isCell a0 a1 (xwr M a0 0 0)) = 0 then 14 else 17, [some (13, a0), some (0, a1), none, none, none, none], [], (xwr M a0 0 0))) rfl trivial ?_
  refine xEvG_br xml xfetch (fun c_ => ?_) (fun c_ => ?_)
  · have h := xif_t c_ h
    refine xEvG_n xml xfetch 1 (y := (201, 16, [some (13, a0), some (0, a1), none, none, none, none], [(0, (-2))], (xwr M a0 0 0))) rfl trivial ?_
    cases h
    exact xEvG_ret xml xfetch rfl
  · have h := xif_f c_ h
    refine xEvG_n xml xfetch 1 (y := (201, 18, [some (13, a0), some (0, a1), none, none, none, none], [(13, a0)], (xwr M a0 0 0))) rfl trivial ?_
    obtain ⟨m2, e_, h⟩ := xB_t h
    refine xEvG_call xml xfetch (q := (none, m2)) rfl (hQ_lays a0 (xwr M a0 0 0) _ e_) ?_
    show xEv (201, 21, [some (13, a0), some (0, a1), none, none, none, none], [], m2) _
    refine xEvG_n xml xfetch 4 (y := (201, 25, [some (13, a0), some (0, a1), some (0, 0), some (0, 0), none, none], [], m2)) rfl trivial ?_
    refine xEvG_mask xml xfetch [true, true, true, true, false, false] ?_
    exact hQ_wanted_L25 20001 a0 a1 0 0 m2 _ h

def fQ_busy_L36 : Nat → Int → Int → Int → Int → Int → xM → Option (Int × xM)
  | 0, _, _, _, _, _, _ => none
  | g + 1, x0, x1, x2, x3, x4, M => if x4 < (M (x0 + 7) 1) then (xB (fQ_doorsIn x0 x4 0 M) (fun v4 => xB (fQ_sizeOf v4 M) (fun v5 => if x3 < v5 then ((fQ_busy_L36 g) x0 x1 x4 v5 (xw32 (x4 + 1)) M) else ((fQ_busy_L36 g) x0 x1 x2 x3 (xw32 (x4 + 1)) M)))) else (some ((if x1 = 0 then x2 else x3 : Int), M))
theorem hQ_busy_L36 : ∀ (g : Nat) (x0 x1 x2 x3 x4 : Int) (M : xM) (r : Int × xM) (h : fQ_busy_L36 g x0 x1 x2 x3 x4 M = some r), xEv (202, 36, [some (13, x0), some (0, x1), some (0, x2), some (0, x3), some (0, x4), none], [], M) (some (0, r.1), r.2)
  | 0, _, _, _, _, _, _, _, h => by cases h
  | g + 1, x0, x1, x2, x3, x4, M, r, h => by
    unfold fQ_busy_L36 at h
    refine xEvG_n xml xfetch 6 (y := (202, if x4 < (M (x0 + 7) 1) then 47 else 80, [some (13, x0), some (0, x1), some (0, x2), some (0, x3), some (0, x4), none], [], M)) rfl ⟨by decide, trivial⟩ ?_
    refine xEvG_br xml xfetch (fun c_ => ?_) (fun c_ => ?_)
    · have h := xif_t c_ h
      refine xEvG_n xml xfetch 3 (y := (202, 51, [some (13, x0), some (0, x1), some (0, x2), some (0, x3), some (0, x4), none], [(0, 0), (0, x4), (13, x0)], M)) rfl trivial ?_
      obtain ⟨v4, e_, h⟩ := xB_t h
      refine xEvG_call xml xfetch (q := (some (0, v4), M)) rfl (hQ_doorsIn x0 x4 0 M _ e_) ?_
      show xEv (202, 54, [some (13, x0), some (0, x1), some (0, x2), some (0, x3), some (0, x4), none], [(0, v4)], M) _
      obtain ⟨v5, e_, h⟩ := xB_t h
      refine xEvG_call xml xfetch (q := (some (0, v5), M)) rfl (hQ_sizeOf v4 M _ e_) ?_
      show xEv (202, 57, [some (13, x0), some (0, x1), some (0, x2), some (0, x3), some (0, x4), none], [(0, v5)], M) _
      refine xEvG_n xml xfetch 4 (y := (202, if x3 < v5 then 68 else 65, [some (13, x0), some (0, x1), some (0, x2), some (0, x3), some (0, x4), some (0, v5)], [], M)) rfl trivial ?_
      refine xEvG_br xml xfetch (fun c_ => ?_) (fun c_ => ?_)
      · have h := xif_t c_ h
        refine xEvG_n xml xfetch 6 (y := (202, 36, [some (13, x0), some (0, x1), some (0, x4), some (0, v5), some (0, (xw32 (x4 + 1))), some (0, v5)], [], M)) rfl trivial ?_
        refine xEvG_mask xml xfetch [true, true, true, true, true, false] ?_
        exact (hQ_busy_L36 g) x0 x1 x4 v5 (xw32 (x4 + 1)) M _ h
      · have h := xif_f c_ h
        refine xEvG_n xml xfetch 3 (y := (202, 36, [some (13, x0), some (0, x1), some (0, x2), some (0, x3), some (0, (xw32 (x4 + 1))), some (0, v5)], [], M)) rfl trivial ?_
        refine xEvG_mask xml xfetch [true, true, true, true, true, false] ?_
        exact (hQ_busy_L36 g) x0 x1 x2 x3 (xw32 (x4 + 1)) M _ h
    · have h := xif_f c_ h
      refine xEvG_n xml xfetch 1 (y := (202, 81, [some (13, x0), some (0, x1), some (0, x2), some (0, x3), some (0, x4), none], [(0, x1)], M)) rfl trivial ?_
      have key_ : xEv (202, 89, [some (13, x0), some (0, x1), some (0, x2), some (0, x3), some (0, x4), none], [(0, (if x1 = 0 then x2 else x3 : Int))], M) (some (0, r.1), r.2) := by
        cases h
        exact xEvG_ret xml xfetch rfl
      refine xEvG_n xml xfetch 1 (y := (202, if x1 = 0 then 84 else 88, [some (13, x0), some (0, x1), some (0, x2), some (0, x3), some (0, x4), none], [], M)) rfl trivial ?_
      refine xEvG_br xml xfetch (fun c6_ => ?_) (fun c6_ => ?_)
      · refine xEvG_n xml xfetch 2 (y := (202, 89, [some (13, x0), some (0, x1), some (0, x2), some (0, x3), some (0, x4), none], [(0, x2)], M)) rfl trivial ?_
        try simp only [if_pos c6_] at key_
        try simp only [if_pos c6_]
        exact key_
      · refine xEvG_n xml xfetch 1 (y := (202, 89, [some (13, x0), some (0, x1), some (0, x2), some (0, x3), some (0, x4), none], [(0, x3)], M)) rfl trivial ?_
        try simp only [if_neg c6_] at key_
        try simp only [if_neg c6_]
        exact key_
/-- ConsentDoorsModel.busy(I)I -/
def fQ_busy (a0 a1 : Int) (M : xM) : Option (Int × xM) := if (fQ_isPrison a0 (xwr M a0 0 0)) = 0 then (some ((-2), (xwr M a0 0 0))) else (if (fQ_in a1 0 1 (xwr M a0 0 0)) = 0 then (some ((-2), (xwr M a0 0 0))) else (xB (fQ_lays a0 (xwr M a0 0 0)) (fun m3 => fQ_busy_L36 20001 a0 a1 0 0 0 m3)))
theorem hQ_busy (a0 a1 : Int) (M : xM) (r : Int × xM) (h : fQ_busy a0 a1 M = some r) : xEv (202, 0, [some (13, a0), some (0, a1), none, none, none, none], [], M) (some (0, r.1), r.2) := by
  unfold fQ_busy at h
  refine xEvG_n xml xfetch 4 (y := (202, 6, [some (13, a0), some (0, a1), none, none, none, none], [(13, a0)], (xwr M a0 0 0))) rfl trivial ?_
  refine xEvG_call xml xfetch (q := (some (0, fQ_isPrison a0 (xwr M a0 0 0)), (xwr M a0 0 0))) rfl (hQ_isPrison a0 (xwr M a0 0 0) _ rfl) ?_
  show xEv (202, 9, [some (13, a0), some (0, a1), none, none, none, none], [(0, (fQ_isPrison a0 (xwr M a0 0 0)))], (xwr M a0 0 0)) _
  refine xEvG_n xml xfetch 1 (y := (202, if (fQ_isPrison a0 (xwr M a0 0 0)) = 0 then 22 else 12, [some (13, a0), some (0, a1), none, none, none, none], [], (xwr M a0 0 0))) rfl trivial ?_
  refine xEvG_br xml xfetch (fun c_ => ?_) (fun c_ => ?_)
  · have h := xif_t c_ h
    refine xEvG_n xml xfetch 1 (y := (202, 24, [some (13, a0), some (0, a1), none, none, none, none], [(0, (-2))], (xwr M a0 0 0))) rfl trivial ?_
    cases h
    exact xEvG_ret xml xfetch rfl
  · have h := xif_f c_ h
    refine xEvG_n xml xfetch 4 (y := (202, 16, [some (13, a0), some (0, a1), none, none, none, none], [(1, 1), (1, 0), (1, a1)], (xwr M a0 0 0))) rfl trivial ?_
    refine xEvG_call xml xfetch (q := (some (0, fQ_in a1 0 1 (xwr M a0 0 0)), (xwr M a0 0 0))) rfl (hQ_in a1 0 1 (xwr M a0 0 0) _ rfl) ?_
    show xEv (202, 19, [some (13, a0), some (0, a1), none, none, none, none], [(0, (fQ_in a1 0 1 (xwr M a0 0 0)))], (xwr M a0 0 0)) _
    refine xEvG_n xml xfetch 1 (y := (202, if (fQ_in a1 0 1 (xwr M a0 0 0)) = 0 then 22 else 25, [some (13, a0), some (0, a1), none, none, none, none], [], (xwr M a0 0 0))) rfl trivial ?_
    refine xEvG_br xml xfetch (fun c_ => ?_) (fun c_ => ?_)
    · have h := xif_t c_ h
      refine xEvG_n xml xfetch 1 (y := (202, 24, [some (13, a0), some (0, a1), none, none, none, none], [(0, (-2))], (xwr M a0 0 0))) rfl trivial ?_
      cases h
      exact xEvG_ret xml xfetch rfl
    · have h := xif_f c_ h
      refine xEvG_n xml xfetch 1 (y := (202, 26, [some (13, a0), some (0, a1), none, none, none, none], [(13, a0)], (xwr M a0 0 0))) rfl trivial ?_
      obtain ⟨m3, e_, h⟩ := xB_t h
      refine xEvG_call xml xfetch (q := (none, m3)) rfl (hQ_lays a0 (xwr M a0 0 0) _ e_) ?_
      show xEv (202, 29, [some (13, a0), some (0, a1), none, none, none, none], [], m3) _
      refine xEvG_n xml xfetch 6 (y := (202, 36, [some (13, a0), some (0, a1), some (0, 0), some (0, 0), some (0, 0), none], [], m3)) rfl trivial ?_
      refine xEvG_mask xml xfetch [true, true, true, true, true, false] ?_
      exact hQ_busy_L36 20001 a0 a1 0 0 0 m3 _ h

def fQ_whyNot_L51 : Nat → Int → Int → Int → Int → Int → xM → Option Int
  | 0, _, _, _, _, _, _ => none
  | g + 1, x0, x1, x2, x3, x5, M => xA (0 ≤ x1 ∧ x1 < 4) (if x5 < (M (x0 + 2) x1) then (xA (0 ≤ (xw32 ((xw32 (60 * x1)) + x5)) ∧ (xw32 ((xw32 (60 * x1)) + x5)) < 240) (if (fQ_isHour x0 (M (x0 + 3) (xw32 ((xw32 (60 * x1)) + x5))) M) = 0 then (some (-2)) else (xA (0 ≤ (xw32 ((xw32 ((xw32 (60 * x1)) + x5)) + 1)) ∧ (xw32 ((xw32 ((xw32 (60 * x1)) + x5)) + 1)) < 240) (if (fQ_isCell x0 (M (x0 + 3) (xw32 ((xw32 ((xw32 (60 * x1)) + x5)) + 1))) M) = 0 then (some (-2)) else (xA (0 ≤ (xw32 ((xw32 ((xw32 (60 * x1)) + x5)) + 2)) ∧ (xw32 ((xw32 ((xw32 (60 * x1)) + x5)) + 2)) < 240) (if (fQ_isSide (M (x0 + 3) (xw32 ((xw32 ((xw32 (60 * x1)) + x5)) + 2))) M) = 0 then (some (-2)) else (if x2 = 0 then (xA (0 ≤ (xw32 ((xw32 (60 * x1)) + x5)) ∧ (xw32 ((xw32 (60 * x1)) + x5)) < 240) (if 0 < (xcmpL (M (x0 + 3) (xw32 ((xw32 (60 * x1)) + x5))) x3) then (xA (0 ≤ (xw32 ((xw32 (60 * x1)) + x5)) ∧ (xw32 ((xw32 (60 * x1)) + x5)) < 240) ((fQ_whyNot_L51 g) x0 x1 x2 (M (x0 + 3) (xw32 ((xw32 (60 * x1)) + x5))) (xw32 (x5 + 3)) M)) else (some (-2)))) else (xA (0 ≤ (xw32 ((xw32 (60 * x1)) + x5)) ∧ (xw32 ((xw32 (60 * x1)) + x5)) < 240) ((fQ_whyNot_L51 g) x0 x1 x2 (M (x0 + 3) (xw32 ((xw32 (60 * x1)) + x5))) (xw32 (x5 + 3)) M))))))))) else (some 0))
theorem hQ_whyNot_L51 : ∀ (g : Nat) (x0 x1 x2 x3 x5 : Int) (M : xM) (r : Int) (h : fQ_whyNot_L51 g x0 x1 x2 x3 x5 M = some r), xEv (203, 51, [some (13, x0), some (0, x1), some (0, x2), some (1, x3), none, some (0, x5), none], [], M) (some (0, r), M)
  | 0, _, _, _, _, _, _, _, h => by cases h
  | g + 1, x0, x1, x2, x3, x5, M, r, h => by
    unfold fQ_whyNot_L51 at h
    have a0_ := (xA_t h).1
    have h := (xA_t h).2
    refine xEvG_n xml xfetch 6 (y := (203, if x5 < (M (x0 + 2) x1) then 62 else 149, [some (13, x0), some (0, x1), some (0, x2), some (1, x3), none, some (0, x5), none], [], M)) rfl ⟨a0_, trivial⟩ ?_
    refine xEvG_br xml xfetch (fun c_ => ?_) (fun c_ => ?_)
    · have h := xif_t c_ h
      have a0_ := (xA_t h).1
      have h := (xA_t h).2
      refine xEvG_n xml xfetch 11 (y := (203, 79, [some (13, x0), some (0, x1), some (0, x2), some (1, x3), none, some (0, x5), some (0, (xw32 ((xw32 (60 * x1)) + x5)))], [(1, (M (x0 + 3) (xw32 ((xw32 (60 * x1)) + x5)))), (13, x0)], M)) rfl ⟨a0_, trivial⟩ ?_
      refine xEvG_call xml xfetch (q := (some (0, fQ_isHour x0 (M (x0 + 3) (xw32 ((xw32 (60 * x1)) + x5))) M), M)) rfl (hQ_isHour x0 (M (x0 + 3) (xw32 ((xw32 (60 * x1)) + x5))) M _ rfl) ?_
      show xEv (203, 82, [some (13, x0), some (0, x1), some (0, x2), some (1, x3), none, some (0, x5), some (0, (xw32 ((xw32 (60 * x1)) + x5)))], [(0, (fQ_isHour x0 (M (x0 + 3) (xw32 ((xw32 (60 * x1)) + x5))) M))], M) _
      refine xEvG_n xml xfetch 1 (y := (203, if (fQ_isHour x0 (M (x0 + 3) (xw32 ((xw32 (60 * x1)) + x5))) M) = 0 then 132 else 85, [some (13, x0), some (0, x1), some (0, x2), some (1, x3), none, some (0, x5), some (0, (xw32 ((xw32 (60 * x1)) + x5)))], [], M)) rfl trivial ?_
      refine xEvG_br xml xfetch (fun c_ => ?_) (fun c_ => ?_)
      · have h := xif_t c_ h
        refine xEvG_n xml xfetch 1 (y := (203, 134, [some (13, x0), some (0, x1), some (0, x2), some (1, x3), none, some (0, x5), some (0, (xw32 ((xw32 (60 * x1)) + x5)))], [(0, (-2))], M)) rfl trivial ?_
        cases h
        exact xEvG_ret xml xfetch rfl
      · have h := xif_f c_ h
        have a0_ := (xA_t h).1
        have h := (xA_t h).2
        refine xEvG_n xml xfetch 7 (y := (203, 95, [some (13, x0), some (0, x1), some (0, x2), some (1, x3), none, some (0, x5), some (0, (xw32 ((xw32 (60 * x1)) + x5)))], [(1, (M (x0 + 3) (xw32 ((xw32 ((xw32 (60 * x1)) + x5)) + 1)))), (13, x0)], M)) rfl ⟨a0_, trivial⟩ ?_
        refine xEvG_call xml xfetch (q := (some (0, fQ_isCell x0 (M (x0 + 3) (xw32 ((xw32 ((xw32 (60 * x1)) + x5)) + 1))) M), M)) rfl (hQ_isCell x0 (M (x0 + 3) (xw32 ((xw32 ((xw32 (60 * x1)) + x5)) + 1))) M _ rfl) ?_
        show xEv (203, 98, [some (13, x0), some (0, x1), some (0, x2), some (1, x3), none, some (0, x5), some (0, (xw32 ((xw32 (60 * x1)) + x5)))], [(0, (fQ_isCell x0 (M (x0 + 3) (xw32 ((xw32 ((xw32 (60 * x1)) + x5)) + 1))) M))], M) _
        refine xEvG_n xml xfetch 1 (y := (203, if (fQ_isCell x0 (M (x0 + 3) (xw32 ((xw32 ((xw32 (60 * x1)) + x5)) + 1))) M) = 0 then 132 else 101, [some (13, x0), some (0, x1), some (0, x2), some (1, x3), none, some (0, x5), some (0, (xw32 ((xw32 (60 * x1)) + x5)))], [], M)) rfl trivial ?_
        refine xEvG_br xml xfetch (fun c_ => ?_) (fun c_ => ?_)
        · have h := xif_t c_ h
          refine xEvG_n xml xfetch 1 (y := (203, 134, [some (13, x0), some (0, x1), some (0, x2), some (1, x3), none, some (0, x5), some (0, (xw32 ((xw32 (60 * x1)) + x5)))], [(0, (-2))], M)) rfl trivial ?_
          cases h
          exact xEvG_ret xml xfetch rfl
        · have h := xif_f c_ h
          have a0_ := (xA_t h).1
          have h := (xA_t h).2
          refine xEvG_n xml xfetch 6 (y := (203, 110, [some (13, x0), some (0, x1), some (0, x2), some (1, x3), none, some (0, x5), some (0, (xw32 ((xw32 (60 * x1)) + x5)))], [(1, (M (x0 + 3) (xw32 ((xw32 ((xw32 (60 * x1)) + x5)) + 2))))], M)) rfl ⟨a0_, trivial⟩ ?_
          refine xEvG_call xml xfetch (q := (some (0, fQ_isSide (M (x0 + 3) (xw32 ((xw32 ((xw32 (60 * x1)) + x5)) + 2))) M), M)) rfl (hQ_isSide (M (x0 + 3) (xw32 ((xw32 ((xw32 (60 * x1)) + x5)) + 2))) M _ rfl) ?_
          show xEv (203, 113, [some (13, x0), some (0, x1), some (0, x2), some (1, x3), none, some (0, x5), some (0, (xw32 ((xw32 (60 * x1)) + x5)))], [(0, (fQ_isSide (M (x0 + 3) (xw32 ((xw32 ((xw32 (60 * x1)) + x5)) + 2))) M))], M) _
          refine xEvG_n xml xfetch 1 (y := (203, if (fQ_isSide (M (x0 + 3) (xw32 ((xw32 ((xw32 (60 * x1)) + x5)) + 2))) M) = 0 then 132 else 116, [some (13, x0), some (0, x1), some (0, x2), some (1, x3), none, some (0, x5), some (0, (xw32 ((xw32 (60 * x1)) + x5)))], [], M)) rfl trivial ?_
          refine xEvG_br xml xfetch (fun c_ => ?_) (fun c_ => ?_)
          · have h := xif_t c_ h
            refine xEvG_n xml xfetch 1 (y := (203, 134, [some (13, x0), some (0, x1), some (0, x2), some (1, x3), none, some (0, x5), some (0, (xw32 ((xw32 (60 * x1)) + x5)))], [(0, (-2))], M)) rfl trivial ?_
            cases h
            exact xEvG_ret xml xfetch rfl
          · have h := xif_f c_ h
            refine xEvG_n xml xfetch 2 (y := (203, if x2 = 0 then 120 else 135, [some (13, x0), some (0, x1), some (0, x2), some (1, x3), none, some (0, x5), some (0, (xw32 ((xw32 (60 * x1)) + x5)))], [], M)) rfl trivial ?_
            refine xEvG_br xml xfetch (fun c_ => ?_) (fun c_ => ?_)
            · have h := xif_t c_ h
              have a0_ := (xA_t h).1
              have h := (xA_t h).2
              refine xEvG_n xml xfetch 7 (y := (203, if 0 < (xcmpL (M (x0 + 3) (xw32 ((xw32 (60 * x1)) + x5))) x3) then 135 else 132, [some (13, x0), some (0, x1), some (0, x2), some (1, x3), none, some (0, x5), some (0, (xw32 ((xw32 (60 * x1)) + x5)))], [], M)) rfl ⟨a0_, trivial⟩ ?_
              refine xEvG_br xml xfetch (fun c_ => ?_) (fun c_ => ?_)
              · have h := xif_t c_ h
                have a0_ := (xA_t h).1
                have h := (xA_t h).2
                refine xEvG_n xml xfetch 7 (y := (203, 51, [some (13, x0), some (0, x1), some (0, x2), some (1, (M (x0 + 3) (xw32 ((xw32 (60 * x1)) + x5)))), none, some (0, (xw32 (x5 + 3))), some (0, (xw32 ((xw32 (60 * x1)) + x5)))], [], M)) rfl ⟨a0_, trivial⟩ ?_
                refine xEvG_mask xml xfetch [true, true, true, true, false, true, false] ?_
                exact (hQ_whyNot_L51 g) x0 x1 x2 (M (x0 + 3) (xw32 ((xw32 (60 * x1)) + x5))) (xw32 (x5 + 3)) M _ h
              · have h := xif_f c_ h
                refine xEvG_n xml xfetch 1 (y := (203, 134, [some (13, x0), some (0, x1), some (0, x2), some (1, x3), none, some (0, x5), some (0, (xw32 ((xw32 (60 * x1)) + x5)))], [(0, (-2))], M)) rfl trivial ?_
                cases h
                exact xEvG_ret xml xfetch rfl
            · have h := xif_f c_ h
              have a0_ := (xA_t h).1
              have h := (xA_t h).2
              refine xEvG_n xml xfetch 7 (y := (203, 51, [some (13, x0), some (0, x1), some (0, x2), some (1, (M (x0 + 3) (xw32 ((xw32 (60 * x1)) + x5)))), none, some (0, (xw32 (x5 + 3))), some (0, (xw32 ((xw32 (60 * x1)) + x5)))], [], M)) rfl ⟨a0_, trivial⟩ ?_
              refine xEvG_mask xml xfetch [true, true, true, true, false, true, false] ?_
              exact (hQ_whyNot_L51 g) x0 x1 x2 (M (x0 + 3) (xw32 ((xw32 (60 * x1)) + x5))) (xw32 (x5 + 3)) M _ h
    · have h := xif_f c_ h
      refine xEvG_n xml xfetch 1 (y := (203, 150, [some (13, x0), some (0, x1), some (0, x2), some (1, x3), none, some (0, x5), none], [(0, 0)], M)) rfl trivial ?_
      cases h
      exact xEvG_ret xml xfetch rfl
/-- ConsentDoorsModel.whyNot(IZ)I -/
def fQ_whyNot (a0 a1 a2 : Int) (M : xM) : Option Int := if (fQ_isSlot a1 M) = 0 then (some (-2)) else (if (fQ_isPrison a0 M) = 0 then (some (-2)) else (xA (0 ≤ a1 ∧ a1 < 4) (if (M (a0 + 1) a1) = (-1) then (some (-6)) else (xA (0 ≤ a1 ∧ a1 < 4) (if (xrem (M (a0 + 2) a1) 3) = 0 then (fQ_whyNot_L51 20001 a0 a1 a2 (-1) 0 M) else (some (-2)))))))
theorem hQ_whyNot (a0 a1 a2 : Int) (M : xM) (r : Int) (h : fQ_whyNot a0 a1 a2 M = some r) : xEv (203, 0, [some (13, a0), some (0, a1), some (0, a2), none, none, none, none], [], M) (some (0, r), M) := by
  unfold fQ_whyNot at h
  refine xEvG_n xml xfetch 1 (y := (203, 1, [some (13, a0), some (0, a1), some (0, a2), none, none, none, none], [(0, a1)], M)) rfl trivial ?_
  refine xEvG_call xml xfetch (q := (some (0, fQ_isSlot a1 M), M)) rfl (hQ_isSlot a1 M _ rfl) ?_
  show xEv (203, 4, [some (13, a0), some (0, a1), some (0, a2), none, none, none, none], [(0, (fQ_isSlot a1 M))], M) _
  refine xEvG_n xml xfetch 1 (y := (203, if (fQ_isSlot a1 M) = 0 then 14 else 7, [some (13, a0), some (0, a1), some (0, a2), none, none, none, none], [], M)) rfl trivial ?_
  refine xEvG_br xml xfetch (fun c_ => ?_) (fun c_ => ?_)
  · have h := xif_t c_ h
    refine xEvG_n xml xfetch 1 (y := (203, 16, [some (13, a0), some (0, a1), some (0, a2), none, none, none, none], [(0, (-2))], M)) rfl trivial ?_
    cases h
    exact xEvG_ret xml xfetch rfl
  · have h := xif_f c_ h
    refine xEvG_n xml xfetch 1 (y := (203, 8, [some (13, a0), some (0, a1), some (0, a2), none, none, none, none], [(13, a0)], M)) rfl trivial ?_
    refine xEvG_call xml xfetch (q := (some (0, fQ_isPrison a0 M), M)) rfl (hQ_isPrison a0 M _ rfl) ?_
    show xEv (203, 11, [some (13, a0), some (0, a1), some (0, a2), none, none, none, none], [(0, (fQ_isPrison a0 M))], M) _
    refine xEvG_n xml xfetch 1 (y := (203, if (fQ_isPrison a0 M) = 0 then 14 else 17, [some (13, a0), some (0, a1), some (0, a2), none, none, none, none], [], M)) rfl trivial ?_
    refine xEvG_br xml xfetch (fun c_ => ?_) (fun c_ => ?_)
    · have h := xif_t c_ h
      refine xEvG_n xml xfetch 1 (y := (203, 16, [some (13, a0), some (0, a1), some (0, a2), none, none, none, none], [(0, (-2))], M)) rfl trivial ?_
      cases h
      exact xEvG_ret xml xfetch rfl
    · have h := xif_f c_ h
      have a0_ := (xA_t h).1
      have h := (xA_t h).2
      refine xEvG_n xml xfetch 6 (y := (203, if (M (a0 + 1) a1) = (-1) then 27 else 30, [some (13, a0), some (0, a1), some (0, a2), none, none, none, none], [], M)) rfl ⟨a0_, trivial⟩ ?_
      refine xEvG_br xml xfetch (fun c_ => ?_) (fun c_ => ?_)
      · have h := xif_t c_ h
        refine xEvG_n xml xfetch 1 (y := (203, 29, [some (13, a0), some (0, a1), some (0, a2), none, none, none, none], [(0, (-6))], M)) rfl trivial ?_
        cases h
        exact xEvG_ret xml xfetch rfl
      · have h := xif_f c_ h
        have a0_ := (xA_t h).1
        have h := (xA_t h).2
        refine xEvG_n xml xfetch 7 (y := (203, if (xrem (M (a0 + 2) a1) 3) = 0 then 44 else 41, [some (13, a0), some (0, a1), some (0, a2), none, none, none, none], [], M)) rfl ⟨a0_, by decide, trivial⟩ ?_
        refine xEvG_br xml xfetch (fun c_ => ?_) (fun c_ => ?_)
        · have h := xif_t c_ h
          refine xEvG_n xml xfetch 4 (y := (203, 51, [some (13, a0), some (0, a1), some (0, a2), some (1, (-1)), none, some (0, 0), none], [], M)) rfl trivial ?_
          refine xEvG_mask xml xfetch [true, true, true, true, false, true, false] ?_
          exact hQ_whyNot_L51 20001 a0 a1 a2 (-1) 0 M _ h
        · have h := xif_f c_ h
          refine xEvG_n xml xfetch 1 (y := (203, 43, [some (13, a0), some (0, a1), some (0, a2), none, none, none, none], [(0, (-2))], M)) rfl trivial ?_
          cases h
          exact xEvG_ret xml xfetch rfl

def fQ_oddBy_L18 : Nat → Int → Int → Int → Int → xM → Option (Int × xM)
  | 0, _, _, _, _, _ => none
  | g + 1, x0, x1, x3, x4, M => xA (0 ≤ x1 ∧ x1 < 4) (if (xw32 (3 * x4)) < (M (x0 + 2) x1) then (xA (0 ≤ (xw32 ((xw32 ((xw32 (60 * x1)) + (xw32 (3 * x4)))) + 1)) ∧ (xw32 ((xw32 ((xw32 (60 * x1)) + (xw32 (3 * x4)))) + 1)) < 240) (xA (0 ≤ (xw32 ((xw32 (60 * x1)) + (xw32 (3 * x4)))) ∧ (xw32 ((xw32 (60 * x1)) + (xw32 (3 * x4)))) < 240) (xB (fQ_opensIf x0 (xw32 (M (x0 + 3) (xw32 ((xw32 ((xw32 (60 * x1)) + (xw32 (3 * x4)))) + 1)))) (xw32 (M (x0 + 3) (xw32 ((xw32 (60 * x1)) + (xw32 (3 * x4)))))) x3 M) (fun v3 => xA (0 ≤ (xw32 ((xw32 ((xw32 (60 * x1)) + (xw32 (3 * x4)))) + 2)) ∧ (xw32 ((xw32 ((xw32 (60 * x1)) + (xw32 (3 * x4)))) + 2)) < 240) (if v3 = (if (xcmpL (M (x0 + 3) (xw32 ((xw32 ((xw32 (60 * x1)) + (xw32 (3 * x4)))) + 2))) 1) = 0 then 1 else 0 : Int) then (if v3 = 0 then ((fQ_oddBy_L18 g) x0 x1 x3 (xw32 (x4 + 1)) M) else ((fQ_oddBy_L18 g) x0 x1 (xor32 x3 (xshl 1 (xw32 (M (x0 + 3) (xw32 ((xw32 ((xw32 (60 * x1)) + (xw32 (3 * x4)))) + 1)))))) (xw32 (x4 + 1)) M)) else (some (x4, M))))))) else (some ((-1), M)))
theorem hQ_oddBy_L18 : ∀ (g : Nat) (x0 x1 x3 x4 : Int) (M : xM) (r : Int × xM) (h : fQ_oddBy_L18 g x0 x1 x3 x4 M = some r), xEv (204, 18, [some (13, x0), some (0, x1), none, some (0, x3), some (0, x4), none, none, none], [], M) (some (0, r.1), r.2)
  | 0, _, _, _, _, _, _, h => by cases h
  | g + 1, x0, x1, x3, x4, M, r, h => by
    unfold fQ_oddBy_L18 at h
    have a0_ := (xA_t h).1
    have h := (xA_t h).2
    refine xEvG_n xml xfetch 8 (y := (204, if (xw32 (3 * x4)) < (M (x0 + 2) x1) then 31 else 116, [some (13, x0), some (0, x1), none, some (0, x3), some (0, x4), none, none, none], [], M)) rfl ⟨a0_, trivial⟩ ?_
    refine xEvG_br xml xfetch (fun c_ => ?_) (fun c_ => ?_)
    · have h := xif_t c_ h
      have a0_ := (xA_t h).1
      have h := (xA_t h).2
      have a1_ := (xA_t h).1
      have h := (xA_t h).2
      refine xEvG_n xml xfetch 24 (y := (204, 66, [some (13, x0), some (0, x1), none, some (0, x3), some (0, x4), some (0, (xw32 ((xw32 (60 * x1)) + (xw32 (3 * x4))))), some (0, (xw32 (M (x0 + 3) (xw32 ((xw32 ((xw32 (60 * x1)) + (xw32 (3 * x4)))) + 1))))), none], [(0, x3), (0, (xw32 (M (x0 + 3) (xw32 ((xw32 (60 * x1)) + (xw32 (3 * x4))))))), (0, (xw32 (M (x0 + 3) (xw32 ((xw32 ((xw32 (60 * x1)) + (xw32 (3 * x4)))) + 1))))), (13, x0)], M)) rfl ⟨a0_, a1_, trivial⟩ ?_
      obtain ⟨v3, e_, h⟩ := xB_t h
      refine xEvG_call xml xfetch (q := (some (0, v3), M)) rfl (hQ_opensIf x0 (xw32 (M (x0 + 3) (xw32 ((xw32 ((xw32 (60 * x1)) + (xw32 (3 * x4)))) + 1)))) (xw32 (M (x0 + 3) (xw32 ((xw32 (60 * x1)) + (xw32 (3 * x4)))))) x3 M _ e_) ?_
      show xEv (204, 69, [some (13, x0), some (0, x1), none, some (0, x3), some (0, x4), some (0, (xw32 ((xw32 (60 * x1)) + (xw32 (3 * x4))))), some (0, (xw32 (M (x0 + 3) (xw32 ((xw32 ((xw32 (60 * x1)) + (xw32 (3 * x4)))) + 1))))), none], [(0, v3)], M) _
      have a0_ := (xA_t h).1
      have h := (xA_t h).2
      refine xEvG_n xml xfetch 10 (y := (204, 84, [some (13, x0), some (0, x1), none, some (0, x3), some (0, x4), some (0, (xw32 ((xw32 (60 * x1)) + (xw32 (3 * x4))))), some (0, (xw32 (M (x0 + 3) (xw32 ((xw32 ((xw32 (60 * x1)) + (xw32 (3 * x4)))) + 1))))), some (0, v3)], [(0, (xcmpL (M (x0 + 3) (xw32 ((xw32 ((xw32 (60 * x1)) + (xw32 (3 * x4)))) + 2))) 1)), (0, v3)], M)) rfl ⟨a0_, trivial⟩ ?_
      have key_ : xEv (204, 92, [some (13, x0), some (0, x1), none, some (0, x3), some (0, x4), some (0, (xw32 ((xw32 (60 * x1)) + (xw32 (3 * x4))))), some (0, (xw32 (M (x0 + 3) (xw32 ((xw32 ((xw32 (60 * x1)) + (xw32 (3 * x4)))) + 1))))), some (0, v3)], [(0, (if (xcmpL (M (x0 + 3) (xw32 ((xw32 ((xw32 (60 * x1)) + (xw32 (3 * x4)))) + 2))) 1) = 0 then 1 else 0 : Int)), (0, v3)], M) (some (0, r.1), r.2) := by
        refine xEvG_n xml xfetch 1 (y := (204, if v3 = (if (xcmpL (M (x0 + 3) (xw32 ((xw32 ((xw32 (60 * x1)) + (xw32 (3 * x4)))) + 2))) 1) = 0 then 1 else 0 : Int) then 98 else 95, [some (13, x0), some (0, x1), none, some (0, x3), some (0, x4), some (0, (xw32 ((xw32 (60 * x1)) + (xw32 (3 * x4))))), some (0, (xw32 (M (x0 + 3) (xw32 ((xw32 ((xw32 (60 * x1)) + (xw32 (3 * x4)))) + 1))))), some (0, v3)], [], M)) rfl trivial ?_
        refine xEvG_br xml xfetch (fun c_ => ?_) (fun c_ => ?_)
        · have h := xif_t c_ h
          refine xEvG_n xml xfetch 2 (y := (204, if v3 = 0 then 110 else 103, [some (13, x0), some (0, x1), none, some (0, x3), some (0, x4), some (0, (xw32 ((xw32 (60 * x1)) + (xw32 (3 * x4))))), some (0, (xw32 (M (x0 + 3) (xw32 ((xw32 ((xw32 (60 * x1)) + (xw32 (3 * x4)))) + 1))))), some (0, v3)], [], M)) rfl trivial ?_
          refine xEvG_br xml xfetch (fun c_ => ?_) (fun c_ => ?_)
          · have h := xif_t c_ h
            refine xEvG_n xml xfetch 2 (y := (204, 18, [some (13, x0), some (0, x1), none, some (0, x3), some (0, (xw32 (x4 + 1))), some (0, (xw32 ((xw32 (60 * x1)) + (xw32 (3 * x4))))), some (0, (xw32 (M (x0 + 3) (xw32 ((xw32 ((xw32 (60 * x1)) + (xw32 (3 * x4)))) + 1))))), some (0, v3)], [], M)) rfl trivial ?_
            refine xEvG_mask xml xfetch [true, true, false, true, true, false, false, false] ?_
            exact (hQ_oddBy_L18 g) x0 x1 x3 (xw32 (x4 + 1)) M _ h
          · have h := xif_f c_ h
            refine xEvG_n xml xfetch 8 (y := (204, 18, [some (13, x0), some (0, x1), none, some (0, (xor32 x3 (xshl 1 (xw32 (M (x0 + 3) (xw32 ((xw32 ((xw32 (60 * x1)) + (xw32 (3 * x4)))) + 1))))))), some (0, (xw32 (x4 + 1))), some (0, (xw32 ((xw32 (60 * x1)) + (xw32 (3 * x4))))), some (0, (xw32 (M (x0 + 3) (xw32 ((xw32 ((xw32 (60 * x1)) + (xw32 (3 * x4)))) + 1))))), some (0, v3)], [], M)) rfl trivial ?_
            refine xEvG_mask xml xfetch [true, true, false, true, true, false, false, false] ?_
            exact (hQ_oddBy_L18 g) x0 x1 (xor32 x3 (xshl 1 (xw32 (M (x0 + 3) (xw32 ((xw32 ((xw32 (60 * x1)) + (xw32 (3 * x4)))) + 1)))))) (xw32 (x4 + 1)) M _ h
        · have h := xif_f c_ h
          refine xEvG_n xml xfetch 1 (y := (204, 97, [some (13, x0), some (0, x1), none, some (0, x3), some (0, x4), some (0, (xw32 ((xw32 (60 * x1)) + (xw32 (3 * x4))))), some (0, (xw32 (M (x0 + 3) (xw32 ((xw32 ((xw32 (60 * x1)) + (xw32 (3 * x4)))) + 1))))), some (0, v3)], [(0, x4)], M)) rfl trivial ?_
          cases h
          exact xEvG_ret xml xfetch rfl
      refine xEvG_n xml xfetch 1 (y := (204, if (xcmpL (M (x0 + 3) (xw32 ((xw32 ((xw32 (60 * x1)) + (xw32 (3 * x4)))) + 2))) 1) = 0 then 87 else 91, [some (13, x0), some (0, x1), none, some (0, x3), some (0, x4), some (0, (xw32 ((xw32 (60 * x1)) + (xw32 (3 * x4))))), some (0, (xw32 (M (x0 + 3) (xw32 ((xw32 ((xw32 (60 * x1)) + (xw32 (3 * x4)))) + 1))))), some (0, v3)], [(0, v3)], M)) rfl trivial ?_
      refine xEvG_br xml xfetch (fun c6_ => ?_) (fun c6_ => ?_)
      · refine xEvG_n xml xfetch 2 (y := (204, 92, [some (13, x0), some (0, x1), none, some (0, x3), some (0, x4), some (0, (xw32 ((xw32 (60 * x1)) + (xw32 (3 * x4))))), some (0, (xw32 (M (x0 + 3) (xw32 ((xw32 ((xw32 (60 * x1)) + (xw32 (3 * x4)))) + 1))))), some (0, v3)], [(0, 1), (0, v3)], M)) rfl trivial ?_
        try simp only [if_pos c6_] at key_
        try simp only [if_pos c6_]
        exact key_
      · refine xEvG_n xml xfetch 1 (y := (204, 92, [some (13, x0), some (0, x1), none, some (0, x3), some (0, x4), some (0, (xw32 ((xw32 (60 * x1)) + (xw32 (3 * x4))))), some (0, (xw32 (M (x0 + 3) (xw32 ((xw32 ((xw32 (60 * x1)) + (xw32 (3 * x4)))) + 1))))), some (0, v3)], [(0, 0), (0, v3)], M)) rfl trivial ?_
        try simp only [if_neg c6_] at key_
        try simp only [if_neg c6_]
        exact key_
    · have h := xif_f c_ h
      refine xEvG_n xml xfetch 1 (y := (204, 117, [some (13, x0), some (0, x1), none, some (0, x3), some (0, x4), none, none, none], [(0, (-1))], M)) rfl trivial ?_
      cases h
      exact xEvG_ret xml xfetch rfl
/-- ConsentDoorsModel.oddBy(II)I -/
def fQ_oddBy (a0 a1 a2 : Int) (M : xM) : Option (Int × xM) := xB (fQ_laysWould a0 (xwr (fQ_plainly a0 M) a0 29 a2)) (fun m2 => fQ_oddBy_L18 20001 a0 a1 0 0 m2)
theorem hQ_oddBy (a0 a1 a2 : Int) (M : xM) (r : Int × xM) (h : fQ_oddBy a0 a1 a2 M = some r) : xEv (204, 0, [some (13, a0), some (0, a1), some (0, a2), none, none, none, none, none], [], M) (some (0, r.1), r.2) := by
  unfold fQ_oddBy at h
  refine xEvG_n xml xfetch 1 (y := (204, 1, [some (13, a0), some (0, a1), some (0, a2), none, none, none, none, none], [(13, a0)], M)) rfl trivial ?_
  refine xEvG_call xml xfetch (q := (none, fQ_plainly a0 M)) rfl (hQ_plainly a0 M _ rfl) ?_
  show xEv (204, 4, [some (13, a0), some (0, a1), some (0, a2), none, none, none, none, none], [], (fQ_plainly a0 M)) _
  refine xEvG_n xml xfetch 4 (y := (204, 10, [some (13, a0), some (0, a1), some (0, a2), none, none, none, none, none], [(13, a0)], (xwr (fQ_plainly a0 M) a0 29 a2))) rfl trivial ?_
  obtain ⟨m2, e_, h⟩ := xB_t h
  refine xEvG_call xml xfetch (q := (none, m2)) rfl (hQ_laysWould a0 (xwr (fQ_plainly a0 M) a0 29 a2) _ e_) ?_
  show xEv (204, 13, [some (13, a0), some (0, a1), some (0, a2), none, none, none, none, none], [], m2) _
  refine xEvG_n xml xfetch 4 (y := (204, 18, [some (13, a0), some (0, a1), some (0, a2), some (0, 0), some (0, 0), none, none, none], [], m2)) rfl trivial ?_
  refine xEvG_mask xml xfetch [true, true, false, true, true, false, false, false] ?_
  exact hQ_oddBy_L18 20001 a0 a1 0 0 m2 _ h

def fQ_refusals_L24 : Nat → Int → Int → Int → xM → Option xM
  | 0, _, _, _, _ => none
  | g + 1, x0, x1, x2, M => if x2 < (xshl 1 (M (x0 + 7) 0)) then (xB (fQ_oddBy x0 x1 x2 M) (fun q_ => match q_ with | (v1, m1) => if v1 = (-1) then (if ((xwr (xwr (xwr m1 x0 42 (xw32 ((m1 x0 42) + 1))) x0 44 (xand ((xwr m1 x0 42 (xw32 ((m1 x0 42) + 1))) x0 44) x2)) x0 45 (xor32 ((xwr (xwr m1 x0 42 (xw32 ((m1 x0 42) + 1))) x0 44 (xand ((xwr m1 x0 42 (xw32 ((m1 x0 42) + 1))) x0 44) x2)) x0 45) x2)) x0 43) = (-1) then ((fQ_refusals_L24 g) x0 x1 (xw32 (x2 + 1)) (xwr (xwr (xwr (xwr m1 x0 42 (xw32 ((m1 x0 42) + 1))) x0 44 (xand ((xwr m1 x0 42 (xw32 ((m1 x0 42) + 1))) x0 44) x2)) x0 45 (xor32 ((xwr (xwr m1 x0 42 (xw32 ((m1 x0 42) + 1))) x0 44 (xand ((xwr m1 x0 42 (xw32 ((m1 x0 42) + 1))) x0 44) x2)) x0 45) x2)) x0 43 x2)) else (xB (fQ_sizeOf x2 (xwr (xwr (xwr m1 x0 42 (xw32 ((m1 x0 42) + 1))) x0 44 (xand ((xwr m1 x0 42 (xw32 ((m1 x0 42) + 1))) x0 44) x2)) x0 45 (xor32 ((xwr (xwr m1 x0 42 (xw32 ((m1 x0 42) + 1))) x0 44 (xand ((xwr m1 x0 42 (xw32 ((m1 x0 42) + 1))) x0 44) x2)) x0 45) x2))) (fun v2 => xB (fQ_sizeOf ((xwr (xwr (xwr m1 x0 42 (xw32 ((m1 x0 42) + 1))) x0 44 (xand ((xwr m1 x0 42 (xw32 ((m1 x0 42) + 1))) x0 44) x2)) x0 45 (xor32 ((xwr (xwr m1 x0 42 (xw32 ((m1 x0 42) + 1))) x0 44 (xand ((xwr m1 x0 42 (xw32 ((m1 x0 42) + 1))) x0 44) x2)) x0 45) x2)) x0 43) (xwr (xwr (xwr m1 x0 42 (xw32 ((m1 x0 42) + 1))) x0 44 (xand ((xwr m1 x0 42 (xw32 ((m1 x0 42) + 1))) x0 44) x2)) x0 45 (xor32 ((xwr (xwr m1 x0 42 (xw32 ((m1 x0 42) + 1))) x0 44 (xand ((xwr m1 x0 42 (xw32 ((m1 x0 42) + 1))) x0 44) x2)) x0 45) x2))) (fun v3 => if v2 < v3 then ((fQ_refusals_L24 g) x0 x1 (xw32 (x2 + 1)) (xwr (xwr (xwr (xwr m1 x0 42 (xw32 ((m1 x0 42) + 1))) x0 44 (xand ((xwr m1 x0 42 (xw32 ((m1 x0 42) + 1))) x0 44) x2)) x0 45 (xor32 ((xwr (xwr m1 x0 42 (xw32 ((m1 x0 42) + 1))) x0 44 (xand ((xwr m1 x0 42 (xw32 ((m1 x0 42) + 1))) x0 44) x2)) x0 45) x2)) x0 43 x2)) else ((fQ_refusals_L24 g) x0 x1 (xw32 (x2 + 1)) (xwr (xwr (xwr m1 x0 42 (xw32 ((m1 x0 42) + 1))) x0 44 (xand ((xwr m1 x0 42 (xw32 ((m1 x0 42) + 1))) x0 44) x2)) x0 45 (xor32 ((xwr (xwr m1 x0 42 (xw32 ((m1 x0 42) + 1))) x0 44 (xand ((xwr m1 x0 42 (xw32 ((m1 x0 42) + 1))) x0 44) x2)) x0 45) x2))))))) else ((fQ_refusals_L24 g) x0 x1 (xw32 (x2 + 1)) m1))) else (some M)
theorem hQ_refusals_L24 : ∀ (g : Nat) (x0 x1 x2 : Int) (M : xM) (r : xM) (h : fQ_refusals_L24 g x0 x1 x2 M = some r), xEv (205, 24, [some (13, x0), some (0, x1), some (0, x2)], [], M) (none, r)
  | 0, _, _, _, _, _, h => by cases h
  | g + 1, x0, x1, x2, M, r, h => by
    unfold fQ_refusals_L24 at h
    refine xEvG_n xml xfetch 8 (y := (205, if x2 < (xshl 1 (M (x0 + 7) 0)) then 36 else 112, [some (13, x0), some (0, x1), some (0, x2)], [], M)) rfl ⟨by decide, trivial⟩ ?_
    refine xEvG_br xml xfetch (fun c_ => ?_) (fun c_ => ?_)
    · have h := xif_t c_ h
      refine xEvG_n xml xfetch 3 (y := (205, 39, [some (13, x0), some (0, x1), some (0, x2)], [(0, x2), (0, x1), (13, x0)], M)) rfl trivial ?_
      obtain ⟨⟨v1, m1⟩, e_, h⟩ := xB_t h
      refine xEvG_call xml xfetch (q := (some (0, v1), m1)) rfl (hQ_oddBy x0 x1 x2 M _ e_) ?_
      show xEv (205, 42, [some (13, x0), some (0, x1), some (0, x2)], [(0, v1)], m1) _
      refine xEvG_n xml xfetch 2 (y := (205, if v1 = (-1) then 49 else 46, [some (13, x0), some (0, x1), some (0, x2)], [], m1)) rfl trivial ?_
      refine xEvG_br xml xfetch (fun c_ => ?_) (fun c_ => ?_)
      · have h := xif_t c_ h
        refine xEvG_n xml xfetch 22 (y := (205, if ((xwr (xwr (xwr m1 x0 42 (xw32 ((m1 x0 42) + 1))) x0 44 (xand ((xwr m1 x0 42 (xw32 ((m1 x0 42) + 1))) x0 44) x2)) x0 45 (xor32 ((xwr (xwr m1 x0 42 (xw32 ((m1 x0 42) + 1))) x0 44 (xand ((xwr m1 x0 42 (xw32 ((m1 x0 42) + 1))) x0 44) x2)) x0 45) x2)) x0 43) = (-1) then 101 else 87, [some (13, x0), some (0, x1), some (0, x2)], [], (xwr (xwr (xwr m1 x0 42 (xw32 ((m1 x0 42) + 1))) x0 44 (xand ((xwr m1 x0 42 (xw32 ((m1 x0 42) + 1))) x0 44) x2)) x0 45 (xor32 ((xwr (xwr m1 x0 42 (xw32 ((m1 x0 42) + 1))) x0 44 (xand ((xwr m1 x0 42 (xw32 ((m1 x0 42) + 1))) x0 44) x2)) x0 45) x2)))) rfl trivial ?_
        refine xEvG_br xml xfetch (fun c_ => ?_) (fun c_ => ?_)
        · have h := xif_t c_ h
          refine xEvG_n xml xfetch 5 (y := (205, 24, [some (13, x0), some (0, x1), some (0, (xw32 (x2 + 1)))], [], (xwr (xwr (xwr (xwr m1 x0 42 (xw32 ((m1 x0 42) + 1))) x0 44 (xand ((xwr m1 x0 42 (xw32 ((m1 x0 42) + 1))) x0 44) x2)) x0 45 (xor32 ((xwr (xwr m1 x0 42 (xw32 ((m1 x0 42) + 1))) x0 44 (xand ((xwr m1 x0 42 (xw32 ((m1 x0 42) + 1))) x0 44) x2)) x0 45) x2)) x0 43 x2))) rfl trivial ?_
          refine xEvG_mask xml xfetch [true, true, true] ?_
          exact (hQ_refusals_L24 g) x0 x1 (xw32 (x2 + 1)) (xwr (xwr (xwr (xwr m1 x0 42 (xw32 ((m1 x0 42) + 1))) x0 44 (xand ((xwr m1 x0 42 (xw32 ((m1 x0 42) + 1))) x0 44) x2)) x0 45 (xor32 ((xwr (xwr m1 x0 42 (xw32 ((m1 x0 42) + 1))) x0 44 (xand ((xwr m1 x0 42 (xw32 ((m1 x0 42) + 1))) x0 44) x2)) x0 45) x2)) x0 43 x2) _ h
        · have h := xif_f c_ h
          refine xEvG_n xml xfetch 1 (y := (205, 88, [some (13, x0), some (0, x1), some (0, x2)], [(0, x2)], (xwr (xwr (xwr m1 x0 42 (xw32 ((m1 x0 42) + 1))) x0 44 (xand ((xwr m1 x0 42 (xw32 ((m1 x0 42) + 1))) x0 44) x2)) x0 45 (xor32 ((xwr (xwr m1 x0 42 (xw32 ((m1 x0 42) + 1))) x0 44 (xand ((xwr m1 x0 42 (xw32 ((m1 x0 42) + 1))) x0 44) x2)) x0 45) x2)))) rfl trivial ?_
          obtain ⟨v2, e_, h⟩ := xB_t h
          refine xEvG_call xml xfetch (q := (some (0, v2), (xwr (xwr (xwr m1 x0 42 (xw32 ((m1 x0 42) + 1))) x0 44 (xand ((xwr m1 x0 42 (xw32 ((m1 x0 42) + 1))) x0 44) x2)) x0 45 (xor32 ((xwr (xwr m1 x0 42 (xw32 ((m1 x0 42) + 1))) x0 44 (xand ((xwr m1 x0 42 (xw32 ((m1 x0 42) + 1))) x0 44) x2)) x0 45) x2)))) rfl (hQ_sizeOf x2 (xwr (xwr (xwr m1 x0 42 (xw32 ((m1 x0 42) + 1))) x0 44 (xand ((xwr m1 x0 42 (xw32 ((m1 x0 42) + 1))) x0 44) x2)) x0 45 (xor32 ((xwr (xwr m1 x0 42 (xw32 ((m1 x0 42) + 1))) x0 44 (xand ((xwr m1 x0 42 (xw32 ((m1 x0 42) + 1))) x0 44) x2)) x0 45) x2)) _ e_) ?_
          show xEv (205, 91, [some (13, x0), some (0, x1), some (0, x2)], [(0, v2)], (xwr (xwr (xwr m1 x0 42 (xw32 ((m1 x0 42) + 1))) x0 44 (xand ((xwr m1 x0 42 (xw32 ((m1 x0 42) + 1))) x0 44) x2)) x0 45 (xor32 ((xwr (xwr m1 x0 42 (xw32 ((m1 x0 42) + 1))) x0 44 (xand ((xwr m1 x0 42 (xw32 ((m1 x0 42) + 1))) x0 44) x2)) x0 45) x2))) _
          refine xEvG_n xml xfetch 2 (y := (205, 95, [some (13, x0), some (0, x1), some (0, x2)], [(0, ((xwr (xwr (xwr m1 x0 42 (xw32 ((m1 x0 42) + 1))) x0 44 (xand ((xwr m1 x0 42 (xw32 ((m1 x0 42) + 1))) x0 44) x2)) x0 45 (xor32 ((xwr (xwr m1 x0 42 (xw32 ((m1 x0 42) + 1))) x0 44 (xand ((xwr m1 x0 42 (xw32 ((m1 x0 42) + 1))) x0 44) x2)) x0 45) x2)) x0 43)), (0, v2)], (xwr (xwr (xwr m1 x0 42 (xw32 ((m1 x0 42) + 1))) x0 44 (xand ((xwr m1 x0 42 (xw32 ((m1 x0 42) + 1))) x0 44) x2)) x0 45 (xor32 ((xwr (xwr m1 x0 42 (xw32 ((m1 x0 42) + 1))) x0 44 (xand ((xwr m1 x0 42 (xw32 ((m1 x0 42) + 1))) x0 44) x2)) x0 45) x2)))) rfl trivial ?_
          obtain ⟨v3, e_, h⟩ := xB_t h
          refine xEvG_call xml xfetch (q := (some (0, v3), (xwr (xwr (xwr m1 x0 42 (xw32 ((m1 x0 42) + 1))) x0 44 (xand ((xwr m1 x0 42 (xw32 ((m1 x0 42) + 1))) x0 44) x2)) x0 45 (xor32 ((xwr (xwr m1 x0 42 (xw32 ((m1 x0 42) + 1))) x0 44 (xand ((xwr m1 x0 42 (xw32 ((m1 x0 42) + 1))) x0 44) x2)) x0 45) x2)))) rfl (hQ_sizeOf ((xwr (xwr (xwr m1 x0 42 (xw32 ((m1 x0 42) + 1))) x0 44 (xand ((xwr m1 x0 42 (xw32 ((m1 x0 42) + 1))) x0 44) x2)) x0 45 (xor32 ((xwr (xwr m1 x0 42 (xw32 ((m1 x0 42) + 1))) x0 44 (xand ((xwr m1 x0 42 (xw32 ((m1 x0 42) + 1))) x0 44) x2)) x0 45) x2)) x0 43) (xwr (xwr (xwr m1 x0 42 (xw32 ((m1 x0 42) + 1))) x0 44 (xand ((xwr m1 x0 42 (xw32 ((m1 x0 42) + 1))) x0 44) x2)) x0 45 (xor32 ((xwr (xwr m1 x0 42 (xw32 ((m1 x0 42) + 1))) x0 44 (xand ((xwr m1 x0 42 (xw32 ((m1 x0 42) + 1))) x0 44) x2)) x0 45) x2)) _ e_) ?_
          show xEv (205, 98, [some (13, x0), some (0, x1), some (0, x2)], [(0, v3), (0, v2)], (xwr (xwr (xwr m1 x0 42 (xw32 ((m1 x0 42) + 1))) x0 44 (xand ((xwr m1 x0 42 (xw32 ((m1 x0 42) + 1))) x0 44) x2)) x0 45 (xor32 ((xwr (xwr m1 x0 42 (xw32 ((m1 x0 42) + 1))) x0 44 (xand ((xwr m1 x0 42 (xw32 ((m1 x0 42) + 1))) x0 44) x2)) x0 45) x2))) _
          refine xEvG_n xml xfetch 1 (y := (205, if v2 < v3 then 101 else 106, [some (13, x0), some (0, x1), some (0, x2)], [], (xwr (xwr (xwr m1 x0 42 (xw32 ((m1 x0 42) + 1))) x0 44 (xand ((xwr m1 x0 42 (xw32 ((m1 x0 42) + 1))) x0 44) x2)) x0 45 (xor32 ((xwr (xwr m1 x0 42 (xw32 ((m1 x0 42) + 1))) x0 44 (xand ((xwr m1 x0 42 (xw32 ((m1 x0 42) + 1))) x0 44) x2)) x0 45) x2)))) rfl trivial ?_
          refine xEvG_br xml xfetch (fun c_ => ?_) (fun c_ => ?_)
          · have h := xif_t c_ h
            refine xEvG_n xml xfetch 5 (y := (205, 24, [some (13, x0), some (0, x1), some (0, (xw32 (x2 + 1)))], [], (xwr (xwr (xwr (xwr m1 x0 42 (xw32 ((m1 x0 42) + 1))) x0 44 (xand ((xwr m1 x0 42 (xw32 ((m1 x0 42) + 1))) x0 44) x2)) x0 45 (xor32 ((xwr (xwr m1 x0 42 (xw32 ((m1 x0 42) + 1))) x0 44 (xand ((xwr m1 x0 42 (xw32 ((m1 x0 42) + 1))) x0 44) x2)) x0 45) x2)) x0 43 x2))) rfl trivial ?_
            refine xEvG_mask xml xfetch [true, true, true] ?_
            exact (hQ_refusals_L24 g) x0 x1 (xw32 (x2 + 1)) (xwr (xwr (xwr (xwr m1 x0 42 (xw32 ((m1 x0 42) + 1))) x0 44 (xand ((xwr m1 x0 42 (xw32 ((m1 x0 42) + 1))) x0 44) x2)) x0 45 (xor32 ((xwr (xwr m1 x0 42 (xw32 ((m1 x0 42) + 1))) x0 44 (xand ((xwr m1 x0 42 (xw32 ((m1 x0 42) + 1))) x0 44) x2)) x0 45) x2)) x0 43 x2) _ h
          · have h := xif_f c_ h
            refine xEvG_n xml xfetch 2 (y := (205, 24, [some (13, x0), some (0, x1), some (0, (xw32 (x2 + 1)))], [], (xwr (xwr (xwr m1 x0 42 (xw32 ((m1 x0 42) + 1))) x0 44 (xand ((xwr m1 x0 42 (xw32 ((m1 x0 42) + 1))) x0 44) x2)) x0 45 (xor32 ((xwr (xwr m1 x0 42 (xw32 ((m1 x0 42) + 1))) x0 44 (xand ((xwr m1 x0 42 (xw32 ((m1 x0 42) + 1))) x0 44) x2)) x0 45) x2)))) rfl trivial ?_
            refine xEvG_mask xml xfetch [true, true, true] ?_
            exact (hQ_refusals_L24 g) x0 x1 (xw32 (x2 + 1)) (xwr (xwr (xwr m1 x0 42 (xw32 ((m1 x0 42) + 1))) x0 44 (xand ((xwr m1 x0 42 (xw32 ((m1 x0 42) + 1))) x0 44) x2)) x0 45 (xor32 ((xwr (xwr m1 x0 42 (xw32 ((m1 x0 42) + 1))) x0 44 (xand ((xwr m1 x0 42 (xw32 ((m1 x0 42) + 1))) x0 44) x2)) x0 45) x2)) _ h
      · have h := xif_f c_ h
        refine xEvG_n xml xfetch 3 (y := (205, 24, [some (13, x0), some (0, x1), some (0, (xw32 (x2 + 1)))], [], m1)) rfl trivial ?_
        refine xEvG_mask xml xfetch [true, true, true] ?_
        exact (hQ_refusals_L24 g) x0 x1 (xw32 (x2 + 1)) m1 _ h
    · have h := xif_f c_ h
      cases h
      exact xEvG_ret xml xfetch rfl
/-- ConsentDoorsModel.refusals(I)V -/
def fQ_refusals (a0 a1 : Int) (M : xM) : Option xM := fQ_refusals_L24 20001 a0 a1 0 (xwr (xwr (xwr (xwr M a0 42 0) a0 43 (-1)) a0 44 511) a0 45 0)
theorem hQ_refusals (a0 a1 : Int) (M : xM) (r : xM) (h : fQ_refusals a0 a1 M = some r) : xEv (205, 0, [some (13, a0), some (0, a1), none], [], M) (none, r) := by
  unfold fQ_refusals at h
  refine xEvG_n xml xfetch 14 (y := (205, 24, [some (13, a0), some (0, a1), some (0, 0)], [], (xwr (xwr (xwr (xwr M a0 42 0) a0 43 (-1)) a0 44 511) a0 45 0))) rfl trivial ?_
  refine xEvG_mask xml xfetch [true, true, true] ?_
  exact hQ_refusals_L24 20001 a0 a1 0 (xwr (xwr (xwr (xwr M a0 42 0) a0 43 (-1)) a0 44 511) a0 45 0) _ h

/-- ConsentDoorsModel.refused(I)I -/
def fQ_refused (a0 a1 : Int) (M : xM) : Option (Int × xM) := xB (fQ_whyNot a0 a1 0 (xwr M a0 0 0)) (fun v1 => if v1 = 0 then (xB (fQ_refusals a0 a1 (xwr M a0 0 0)) (fun m2 => some ((m2 a0 42), m2))) else (some (v1, (xwr M a0 0 0))))
theorem hQ_refused (a0 a1 : Int) (M : xM) (r : Int × xM) (h : fQ_refused a0 a1 M = some r) : xEv (206, 0, [some (13, a0), some (0, a1), none], [], M) (some (0, r.1), r.2) := by
  unfold fQ_refused at h
  refine xEvG_n xml xfetch 6 (y := (206, 8, [some (13, a0), some (0, a1), none], [(0, 0), (0, a1), (13, a0)], (xwr M a0 0 0))) rfl trivial ?_
  obtain ⟨v1, e_, h⟩ := xB_t h
  refine xEvG_call xml xfetch (q := (some (0, v1), (xwr M a0 0 0))) rfl (hQ_whyNot a0 a1 0 (xwr M a0 0 0) _ e_) ?_
  show xEv (206, 11, [some (13, a0), some (0, a1), none], [(0, v1)], (xwr M a0 0 0)) _
  refine xEvG_n xml xfetch 3 (y := (206, if v1 = 0 then 18 else 16, [some (13, a0), some (0, a1), some (0, v1)], [], (xwr M a0 0 0))) rfl trivial ?_
  refine xEvG_br xml xfetch (fun c_ => ?_) (fun c_ => ?_)
  · have h := xif_t c_ h
    refine xEvG_n xml xfetch 2 (y := (206, 20, [some (13, a0), some (0, a1), some (0, v1)], [(0, a1), (13, a0)], (xwr M a0 0 0))) rfl trivial ?_
    obtain ⟨m2, e_, h⟩ := xB_t h
    refine xEvG_call xml xfetch (q := (none, m2)) rfl (hQ_refusals a0 a1 (xwr M a0 0 0) _ e_) ?_
    show xEv (206, 23, [some (13, a0), some (0, a1), some (0, v1)], [], m2) _
    refine xEvG_n xml xfetch 2 (y := (206, 27, [some (13, a0), some (0, a1), some (0, v1)], [(0, (m2 a0 42))], m2)) rfl trivial ?_
    cases h
    exact xEvG_ret xml xfetch rfl
  · have h := xif_f c_ h
    refine xEvG_n xml xfetch 1 (y := (206, 17, [some (13, a0), some (0, a1), some (0, v1)], [(0, v1)], (xwr M a0 0 0))) rfl trivial ?_
    cases h
    exact xEvG_ret xml xfetch rfl

/-- ConsentDoorsModel.fewest(I)I -/
def fQ_fewest (a0 a1 : Int) (M : xM) : Option (Int × xM) := xB (fQ_whyNot a0 a1 0 (xwr M a0 0 0)) (fun v1 => if v1 = 0 then (xB (fQ_refusals a0 a1 (xwr M a0 0 0)) (fun m2 => some ((m2 a0 43), m2))) else (some (v1, (xwr M a0 0 0))))
theorem hQ_fewest (a0 a1 : Int) (M : xM) (r : Int × xM) (h : fQ_fewest a0 a1 M = some r) : xEv (207, 0, [some (13, a0), some (0, a1), none], [], M) (some (0, r.1), r.2) := by
  unfold fQ_fewest at h
  refine xEvG_n xml xfetch 6 (y := (207, 8, [some (13, a0), some (0, a1), none], [(0, 0), (0, a1), (13, a0)], (xwr M a0 0 0))) rfl trivial ?_
  obtain ⟨v1, e_, h⟩ := xB_t h
  refine xEvG_call xml xfetch (q := (some (0, v1), (xwr M a0 0 0))) rfl (hQ_whyNot a0 a1 0 (xwr M a0 0 0) _ e_) ?_
  show xEv (207, 11, [some (13, a0), some (0, a1), none], [(0, v1)], (xwr M a0 0 0)) _
  refine xEvG_n xml xfetch 3 (y := (207, if v1 = 0 then 18 else 16, [some (13, a0), some (0, a1), some (0, v1)], [], (xwr M a0 0 0))) rfl trivial ?_
  refine xEvG_br xml xfetch (fun c_ => ?_) (fun c_ => ?_)
  · have h := xif_t c_ h
    refine xEvG_n xml xfetch 2 (y := (207, 20, [some (13, a0), some (0, a1), some (0, v1)], [(0, a1), (13, a0)], (xwr M a0 0 0))) rfl trivial ?_
    obtain ⟨m2, e_, h⟩ := xB_t h
    refine xEvG_call xml xfetch (q := (none, m2)) rfl (hQ_refusals a0 a1 (xwr M a0 0 0) _ e_) ?_
    show xEv (207, 23, [some (13, a0), some (0, a1), some (0, v1)], [], m2) _
    refine xEvG_n xml xfetch 2 (y := (207, 27, [some (13, a0), some (0, a1), some (0, v1)], [(0, (m2 a0 43))], m2)) rfl trivial ?_
    cases h
    exact xEvG_ret xml xfetch rfl
  · have h := xif_f c_ h
    refine xEvG_n xml xfetch 1 (y := (207, 17, [some (13, a0), some (0, a1), some (0, v1)], [(0, v1)], (xwr M a0 0 0))) rfl trivial ?_
    cases h
    exact xEvG_ret xml xfetch rfl

def fQ_sure_L26 (x0 x1 x2 y0 : Int) (M : xM) : Option (Int × xM) := if y0 = 0 then (xB (fQ_refusals x0 x1 M) (fun m2 => if (m2 x0 42) = 0 then (some ((-1), m2)) else (if x2 = 0 then (some ((m2 x0 44), m2)) else (some ((xand (xw32 ((xshl 1 (m2 (x0 + 7) 0)) - 1)) (xxor (m2 x0 45) (-1))), m2))))) else (some (y0, M))
theorem hQ_sure_L26 (x0 x1 x2 y0 : Int) (M : xM) (r : Int × xM) (h : fQ_sure_L26 x0 x1 x2 y0 M = some r) : xEv (208, 26, [some (13, x0), some (0, x1), some (0, x2), none], [(0, y0)], M) (some (0, r.1), r.2) := by
  unfold fQ_sure_L26 at h
  refine xEvG_n xml xfetch 3 (y := (208, if y0 = 0 then 33 else 31, [some (13, x0), some (0, x1), some (0, x2), some (0, y0)], [], M)) rfl trivial ?_
  refine xEvG_br xml xfetch (fun c_ => ?_) (fun c_ => ?_)
  · have h := xif_t c_ h
    refine xEvG_n xml xfetch 2 (y := (208, 35, [some (13, x0), some (0, x1), some (0, x2), some (0, y0)], [(0, x1), (13, x0)], M)) rfl trivial ?_
    obtain ⟨m2, e_, h⟩ := xB_t h
    refine xEvG_call xml xfetch (q := (none, m2)) rfl (hQ_refusals x0 x1 M _ e_) ?_
    show xEv (208, 38, [some (13, x0), some (0, x1), some (0, x2), some (0, y0)], [], m2) _
    refine xEvG_n xml xfetch 3 (y := (208, if (m2 x0 42) = 0 then 45 else 47, [some (13, x0), some (0, x1), some (0, x2), some (0, y0)], [], m2)) rfl trivial ?_
    refine xEvG_br xml xfetch (fun c_ => ?_) (fun c_ => ?_)
    · have h := xif_t c_ h
      refine xEvG_n xml xfetch 1 (y := (208, 46, [some (13, x0), some (0, x1), some (0, x2), some (0, y0)], [(0, (-1))], m2)) rfl trivial ?_
      cases h
      exact xEvG_ret xml xfetch rfl
    · have h := xif_f c_ h
      refine xEvG_n xml xfetch 2 (y := (208, if x2 = 0 then 51 else 58, [some (13, x0), some (0, x1), some (0, x2), some (0, y0)], [], m2)) rfl trivial ?_
      refine xEvG_br xml xfetch (fun c_ => ?_) (fun c_ => ?_)
      · have h := xif_t c_ h
        refine xEvG_n xml xfetch 3 (y := (208, 75, [some (13, x0), some (0, x1), some (0, x2), some (0, y0)], [(0, (m2 x0 44))], m2)) rfl trivial ?_
        cases h
        exact xEvG_ret xml xfetch rfl
      · have h := xif_f c_ h
        refine xEvG_n xml xfetch 13 (y := (208, 75, [some (13, x0), some (0, x1), some (0, x2), some (0, y0)], [(0, (xand (xw32 ((xshl 1 (m2 (x0 + 7) 0)) - 1)) (xxor (m2 x0 45) (-1))))], m2)) rfl ⟨by decide, trivial⟩ ?_
        cases h
        exact xEvG_ret xml xfetch rfl
  · have h := xif_f c_ h
    refine xEvG_n xml xfetch 1 (y := (208, 32, [some (13, x0), some (0, x1), some (0, x2), some (0, y0)], [(0, y0)], M)) rfl trivial ?_
    cases h
    exact xEvG_ret xml xfetch rfl
/-- ConsentDoorsModel.sure(II)I -/
def fQ_sure (a0 a1 a2 : Int) (M : xM) : Option (Int × xM) := if (fQ_in a2 0 1 (xwr M a0 0 0)) = 0 then (fQ_sure_L26 a0 a1 a2 (-2) (xwr M a0 0 0)) else (xB (fQ_whyNot a0 a1 0 (xwr M a0 0 0)) (fun v3 => fQ_sure_L26 a0 a1 a2 v3 (xwr M a0 0 0)))
theorem hQ_sure (a0 a1 a2 : Int) (M : xM) (r : Int × xM) (h : fQ_sure a0 a1 a2 M = some r) : xEv (208, 0, [some (13, a0), some (0, a1), some (0, a2), none], [], M) (some (0, r.1), r.2) := by
  unfold fQ_sure at h
  refine xEvG_n xml xfetch 7 (y := (208, 9, [some (13, a0), some (0, a1), some (0, a2), none], [(1, 1), (1, 0), (1, a2)], (xwr M a0 0 0))) rfl trivial ?_
  refine xEvG_call xml xfetch (q := (some (0, fQ_in a2 0 1 (xwr M a0 0 0)), (xwr M a0 0 0))) rfl (hQ_in a2 0 1 (xwr M a0 0 0) _ rfl) ?_
  show xEv (208, 12, [some (13, a0), some (0, a1), some (0, a2), none], [(0, (fQ_in a2 0 1 (xwr M a0 0 0)))], (xwr M a0 0 0)) _
  refine xEvG_n xml xfetch 1 (y := (208, if (fQ_in a2 0 1 (xwr M a0 0 0)) = 0 then 24 else 15, [some (13, a0), some (0, a1), some (0, a2), none], [], (xwr M a0 0 0))) rfl trivial ?_
  refine xEvG_br xml xfetch (fun c_ => ?_) (fun c_ => ?_)
  · have h := xif_t c_ h
    refine xEvG_n xml xfetch 1 (y := (208, 26, [some (13, a0), some (0, a1), some (0, a2), none], [(0, (-2))], (xwr M a0 0 0))) rfl trivial ?_
    refine xEvG_mask xml xfetch [true, true, true, false] ?_
    exact hQ_sure_L26 a0 a1 a2 (-2) (xwr M a0 0 0) _ h
  · have h := xif_f c_ h
    refine xEvG_n xml xfetch 3 (y := (208, 18, [some (13, a0), some (0, a1), some (0, a2), none], [(0, 0), (0, a1), (13, a0)], (xwr M a0 0 0))) rfl trivial ?_
    obtain ⟨v3, e_, h⟩ := xB_t h
    refine xEvG_call xml xfetch (q := (some (0, v3), (xwr M a0 0 0))) rfl (hQ_whyNot a0 a1 0 (xwr M a0 0 0) _ e_) ?_
    show xEv (208, 21, [some (13, a0), some (0, a1), some (0, a2), none], [(0, v3)], (xwr M a0 0 0)) _
    refine xEvG_n xml xfetch 1 (y := (208, 26, [some (13, a0), some (0, a1), some (0, a2), none], [(0, v3)], (xwr M a0 0 0))) rfl trivial ?_
    refine xEvG_mask xml xfetch [true, true, true, false] ?_
    exact hQ_sure_L26 a0 a1 a2 v3 (xwr M a0 0 0) _ h

/-- ConsentDoorsModel.odd(I)I -/
def fQ_odd (a0 a1 : Int) (M : xM) : Option (Int × xM) := xB (fQ_whyNot a0 a1 0 (xwr M a0 0 0)) (fun v1 => if v1 = 0 then (xB (fQ_oddBy a0 a1 0 (xwr M a0 0 0)) (fun q_ => match q_ with | (v2, m2) => some (v2, m2))) else (some (v1, (xwr M a0 0 0))))
theorem hQ_odd (a0 a1 : Int) (M : xM) (r : Int × xM) (h : fQ_odd a0 a1 M = some r) : xEv (209, 0, [some (13, a0), some (0, a1), none], [], M) (some (0, r.1), r.2) := by
  unfold fQ_odd at h
  refine xEvG_n xml xfetch 6 (y := (209, 8, [some (13, a0), some (0, a1), none], [(0, 0), (0, a1), (13, a0)], (xwr M a0 0 0))) rfl trivial ?_
  obtain ⟨v1, e_, h⟩ := xB_t h
  refine xEvG_call xml xfetch (q := (some (0, v1), (xwr M a0 0 0))) rfl (hQ_whyNot a0 a1 0 (xwr M a0 0 0) _ e_) ?_
  show xEv (209, 11, [some (13, a0), some (0, a1), none], [(0, v1)], (xwr M a0 0 0)) _
  refine xEvG_n xml xfetch 3 (y := (209, if v1 = 0 then 20 else 16, [some (13, a0), some (0, a1), some (0, v1)], [], (xwr M a0 0 0))) rfl trivial ?_
  refine xEvG_br xml xfetch (fun c_ => ?_) (fun c_ => ?_)
  · have h := xif_t c_ h
    refine xEvG_n xml xfetch 3 (y := (209, 23, [some (13, a0), some (0, a1), some (0, v1)], [(0, 0), (0, a1), (13, a0)], (xwr M a0 0 0))) rfl trivial ?_
    obtain ⟨⟨v2, m2⟩, e_, h⟩ := xB_t h
    refine xEvG_call xml xfetch (q := (some (0, v2), m2)) rfl (hQ_oddBy a0 a1 0 (xwr M a0 0 0) _ e_) ?_
    show xEv (209, 26, [some (13, a0), some (0, a1), some (0, v1)], [(0, v2)], m2) _
    cases h
    exact xEvG_ret xml xfetch rfl
  · have h := xif_f c_ h
    refine xEvG_n xml xfetch 2 (y := (209, 26, [some (13, a0), some (0, a1), some (0, v1)], [(0, v1)], (xwr M a0 0 0))) rfl trivial ?_
    cases h
    exact xEvG_ret xml xfetch rfl

def fQ_forgedOf_L89 (k_5 : Int → Int → Int → Int → Int → xM → Option Int) (x0 x1 x2 x3 x4 x5 x6 x7 y0 : Int) (M : xM) : Option Int := if y0 = 0 then (xA (0 ≤ (xw32 (x5 + 2)) ∧ (xw32 (x5 + 2)) < 240) (xB (fQ_reasonOf x0 x7 (xw32 (M (x0 + 3) (xw32 (x5 + 2)))) x6 M) (fun v3 => if v3 = 0 then (k_5 x0 x1 x2 (xw32 (x3 + 0)) (xw32 (x4 + 3)) M) else (k_5 x0 x1 x2 (xw32 (x3 + 1)) (xw32 (x4 + 3)) M)))) else (k_5 x0 x1 x2 (xw32 (x3 + 1)) (xw32 (x4 + 3)) M)
theorem hQ_forgedOf_L89 (k_5 : Int → Int → Int → Int → Int → xM → Option Int) (hk_5 : ∀ (x0 x1 x2 x3 x4 : Int) (M : xM) (r : Int), k_5 x0 x1 x2 x3 x4 M = some r → xEv (210, 5, [some (13, x0), some (0, x1), some (0, x2), some (0, x3), some (0, x4), none, none, none, none], [], M) (some (0, r), M)) (x0 x1 x2 x3 x4 x5 x6 x7 y0 : Int) (M : xM) (r : Int) (h : fQ_forgedOf_L89 k_5 x0 x1 x2 x3 x4 x5 x6 x7 y0 M = some r) : xEv (210, 89, [some (13, x0), some (0, x1), some (0, x2), some (0, x3), some (0, x4), some (0, x5), some (0, x6), some (0, x7), none], [(0, y0)], M) (some (0, r), M) := by
  unfold fQ_forgedOf_L89 at h
  refine xEvG_n xml xfetch 4 (y := (210, if y0 = 0 then 97 else 118, [some (13, x0), some (0, x1), some (0, x2), some (0, x3), some (0, x4), some (0, x5), some (0, x6), some (0, x7), some (0, y0)], [(0, x3)], M)) rfl trivial ?_
  refine xEvG_br xml xfetch (fun c_ => ?_) (fun c_ => ?_)
  · have h := xif_t c_ h
    have a0_ := (xA_t h).1
    have h := (xA_t h).2
    refine xEvG_n xml xfetch 10 (y := (210, 112, [some (13, x0), some (0, x1), some (0, x2), some (0, x3), some (0, x4), some (0, x5), some (0, x6), some (0, x7), some (0, y0)], [(0, x6), (0, (xw32 (M (x0 + 3) (xw32 (x5 + 2))))), (0, x7), (13, x0), (0, x3)], M)) rfl ⟨a0_, trivial⟩ ?_
    obtain ⟨v3, e_, h⟩ := xB_t h
    refine xEvG_call xml xfetch (q := (some (0, v3), M)) rfl (hQ_reasonOf x0 x7 (xw32 (M (x0 + 3) (xw32 (x5 + 2)))) x6 M _ e_) ?_
    show xEv (210, 115, [some (13, x0), some (0, x1), some (0, x2), some (0, x3), some (0, x4), some (0, x5), some (0, x6), some (0, x7), some (0, y0)], [(0, v3), (0, x3)], M) _
    refine xEvG_n xml xfetch 1 (y := (210, if v3 = 0 then 122 else 118, [some (13, x0), some (0, x1), some (0, x2), some (0, x3), some (0, x4), some (0, x5), some (0, x6), some (0, x7), some (0, y0)], [(0, x3)], M)) rfl trivial ?_
    refine xEvG_br xml xfetch (fun c_ => ?_) (fun c_ => ?_)
    · have h := xif_t c_ h
      refine xEvG_n xml xfetch 5 (y := (210, 5, [some (13, x0), some (0, x1), some (0, x2), some (0, (xw32 (x3 + 0))), some (0, (xw32 (x4 + 3))), some (0, x5), some (0, x6), some (0, x7), some (0, y0)], [], M)) rfl trivial ?_
      refine xEvG_mask xml xfetch [true, true, true, true, true, false, false, false, false] ?_
      exact hk_5 x0 x1 x2 (xw32 (x3 + 0)) (xw32 (x4 + 3)) M _ h
    · have h := xif_f c_ h
      refine xEvG_n xml xfetch 6 (y := (210, 5, [some (13, x0), some (0, x1), some (0, x2), some (0, (xw32 (x3 + 1))), some (0, (xw32 (x4 + 3))), some (0, x5), some (0, x6), some (0, x7), some (0, y0)], [], M)) rfl trivial ?_
      refine xEvG_mask xml xfetch [true, true, true, true, true, false, false, false, false] ?_
      exact hk_5 x0 x1 x2 (xw32 (x3 + 1)) (xw32 (x4 + 3)) M _ h
  · have h := xif_f c_ h
    refine xEvG_n xml xfetch 6 (y := (210, 5, [some (13, x0), some (0, x1), some (0, x2), some (0, (xw32 (x3 + 1))), some (0, (xw32 (x4 + 3))), some (0, x5), some (0, x6), some (0, x7), some (0, y0)], [], M)) rfl trivial ?_
    refine xEvG_mask xml xfetch [true, true, true, true, true, false, false, false, false] ?_
    exact hk_5 x0 x1 x2 (xw32 (x3 + 1)) (xw32 (x4 + 3)) M _ h
def fQ_forgedOf_L5 : Nat → Int → Int → Int → Int → Int → xM → Option Int
  | 0, _, _, _, _, _, _ => none
  | g + 1, x0, x1, x2, x3, x4, M => xA (0 ≤ x1 ∧ x1 < 4) (if x4 < (M (x0 + 2) x1) then (xA (0 ≤ (xw32 ((xw32 (60 * x1)) + x4)) ∧ (xw32 ((xw32 (60 * x1)) + x4)) < 240) (xA (0 ≤ (xw32 ((xw32 ((xw32 (60 * x1)) + x4)) + 1)) ∧ (xw32 ((xw32 ((xw32 (60 * x1)) + x4)) + 1)) < 240) (if x2 = (-1) then (xB (fQ_outAhead x0 (xw32 (M (x0 + 3) (xw32 ((xw32 (60 * x1)) + x4)))) M) (fun v1 => if (fQ_isBit v1 (xw32 (M (x0 + 3) (xw32 ((xw32 ((xw32 (60 * x1)) + x4)) + 1)))) M) = 0 then (fQ_forgedOf_L89 (fQ_forgedOf_L5 g) x0 x1 x2 x3 x4 (xw32 ((xw32 (60 * x1)) + x4)) (xw32 (M (x0 + 3) (xw32 ((xw32 (60 * x1)) + x4)))) (xw32 (M (x0 + 3) (xw32 ((xw32 ((xw32 (60 * x1)) + x4)) + 1)))) 0 M) else (xB (fQ_isLoyal x0 (xw32 (M (x0 + 3) (xw32 ((xw32 ((xw32 (60 * x1)) + x4)) + 1)))) M) (fun v4 => if v4 = 0 then (fQ_forgedOf_L89 (fQ_forgedOf_L5 g) x0 x1 x2 x3 x4 (xw32 ((xw32 (60 * x1)) + x4)) (xw32 (M (x0 + 3) (xw32 ((xw32 (60 * x1)) + x4)))) (xw32 (M (x0 + 3) (xw32 ((xw32 ((xw32 (60 * x1)) + x4)) + 1)))) 1 M) else (fQ_forgedOf_L89 (fQ_forgedOf_L5 g) x0 x1 x2 x3 x4 (xw32 ((xw32 (60 * x1)) + x4)) (xw32 (M (x0 + 3) (xw32 ((xw32 (60 * x1)) + x4)))) (xw32 (M (x0 + 3) (xw32 ((xw32 ((xw32 (60 * x1)) + x4)) + 1)))) 0 M))))) else (if (xw32 (M (x0 + 3) (xw32 ((xw32 ((xw32 (60 * x1)) + x4)) + 1)))) = x2 then (xB (fQ_outAhead x0 (xw32 (M (x0 + 3) (xw32 ((xw32 (60 * x1)) + x4)))) M) (fun v5 => if (fQ_isBit v5 (xw32 (M (x0 + 3) (xw32 ((xw32 ((xw32 (60 * x1)) + x4)) + 1)))) M) = 0 then (fQ_forgedOf_L89 (fQ_forgedOf_L5 g) x0 x1 x2 x3 x4 (xw32 ((xw32 (60 * x1)) + x4)) (xw32 (M (x0 + 3) (xw32 ((xw32 (60 * x1)) + x4)))) (xw32 (M (x0 + 3) (xw32 ((xw32 ((xw32 (60 * x1)) + x4)) + 1)))) 0 M) else (xB (fQ_isLoyal x0 (xw32 (M (x0 + 3) (xw32 ((xw32 ((xw32 (60 * x1)) + x4)) + 1)))) M) (fun v7 => if v7 = 0 then (fQ_forgedOf_L89 (fQ_forgedOf_L5 g) x0 x1 x2 x3 x4 (xw32 ((xw32 (60 * x1)) + x4)) (xw32 (M (x0 + 3) (xw32 ((xw32 (60 * x1)) + x4)))) (xw32 (M (x0 + 3) (xw32 ((xw32 ((xw32 (60 * x1)) + x4)) + 1)))) 1 M) else (fQ_forgedOf_L89 (fQ_forgedOf_L5 g) x0 x1 x2 x3 x4 (xw32 ((xw32 (60 * x1)) + x4)) (xw32 (M (x0 + 3) (xw32 ((xw32 (60 * x1)) + x4)))) (xw32 (M (x0 + 3) (xw32 ((xw32 ((xw32 (60 * x1)) + x4)) + 1)))) 0 M))))) else ((fQ_forgedOf_L5 g) x0 x1 x2 x3 (xw32 (x4 + 3)) M))))) else (some x3))
theorem hQ_forgedOf_L5 : ∀ (g : Nat) (x0 x1 x2 x3 x4 : Int) (M : xM) (r : Int) (h : fQ_forgedOf_L5 g x0 x1 x2 x3 x4 M = some r), xEv (210, 5, [some (13, x0), some (0, x1), some (0, x2), some (0, x3), some (0, x4), none, none, none, none], [], M) (some (0, r), M)
  | 0, _, _, _, _, _, _, _, h => by cases h
  | g + 1, x0, x1, x2, x3, x4, M, r, h => by
    unfold fQ_forgedOf_L5 at h
    have a0_ := (xA_t h).1
    have h := (xA_t h).2
    refine xEvG_n xml xfetch 6 (y := (210, if x4 < (M (x0 + 2) x1) then 16 else 131, [some (13, x0), some (0, x1), some (0, x2), some (0, x3), some (0, x4), none, none, none, none], [], M)) rfl ⟨a0_, trivial⟩ ?_
    refine xEvG_br xml xfetch (fun c_ => ?_) (fun c_ => ?_)
    · have h := xif_t c_ h
      have a0_ := (xA_t h).1
      have h := (xA_t h).2
      have a1_ := (xA_t h).1
      have h := (xA_t h).2
      refine xEvG_n xml xfetch 23 (y := (210, if x2 = (-1) then 61 else 52, [some (13, x0), some (0, x1), some (0, x2), some (0, x3), some (0, x4), some (0, (xw32 ((xw32 (60 * x1)) + x4))), some (0, (xw32 (M (x0 + 3) (xw32 ((xw32 (60 * x1)) + x4))))), some (0, (xw32 (M (x0 + 3) (xw32 ((xw32 ((xw32 (60 * x1)) + x4)) + 1))))), none], [], M)) rfl ⟨a0_, a1_, trivial⟩ ?_
      refine xEvG_br xml xfetch (fun c_ => ?_) (fun c_ => ?_)
      · have h := xif_t c_ h
        refine xEvG_n xml xfetch 2 (y := (210, 64, [some (13, x0), some (0, x1), some (0, x2), some (0, x3), some (0, x4), some (0, (xw32 ((xw32 (60 * x1)) + x4))), some (0, (xw32 (M (x0 + 3) (xw32 ((xw32 (60 * x1)) + x4))))), some (0, (xw32 (M (x0 + 3) (xw32 ((xw32 ((xw32 (60 * x1)) + x4)) + 1))))), none], [(0, (xw32 (M (x0 + 3) (xw32 ((xw32 (60 * x1)) + x4))))), (13, x0)], M)) rfl trivial ?_
        obtain ⟨v1, e_, h⟩ := xB_t h
        refine xEvG_call xml xfetch (q := (some (0, v1), M)) rfl (hQ_outAhead x0 (xw32 (M (x0 + 3) (xw32 ((xw32 (60 * x1)) + x4)))) M _ e_) ?_
        show xEv (210, 67, [some (13, x0), some (0, x1), some (0, x2), some (0, x3), some (0, x4), some (0, (xw32 ((xw32 (60 * x1)) + x4))), some (0, (xw32 (M (x0 + 3) (xw32 ((xw32 (60 * x1)) + x4))))), some (0, (xw32 (M (x0 + 3) (xw32 ((xw32 ((xw32 (60 * x1)) + x4)) + 1))))), none], [(0, v1)], M) _
        refine xEvG_n xml xfetch 1 (y := (210, 69, [some (13, x0), some (0, x1), some (0, x2), some (0, x3), some (0, x4), some (0, (xw32 ((xw32 (60 * x1)) + x4))), some (0, (xw32 (M (x0 + 3) (xw32 ((xw32 (60 * x1)) + x4))))), some (0, (xw32 (M (x0 + 3) (xw32 ((xw32 ((xw32 (60 * x1)) + x4)) + 1))))), none], [(0, (xw32 (M (x0 + 3) (xw32 ((xw32 ((xw32 (60 * x1)) + x4)) + 1))))), (0, v1)], M)) rfl trivial ?_
        refine xEvG_call xml xfetch (q := (some (0, fQ_isBit v1 (xw32 (M (x0 + 3) (xw32 ((xw32 ((xw32 (60 * x1)) + x4)) + 1)))) M), M)) rfl (hQ_isBit v1 (xw32 (M (x0 + 3) (xw32 ((xw32 ((xw32 (60 * x1)) + x4)) + 1)))) M _ rfl) ?_
        show xEv (210, 72, [some (13, x0), some (0, x1), some (0, x2), some (0, x3), some (0, x4), some (0, (xw32 ((xw32 (60 * x1)) + x4))), some (0, (xw32 (M (x0 + 3) (xw32 ((xw32 (60 * x1)) + x4))))), some (0, (xw32 (M (x0 + 3) (xw32 ((xw32 ((xw32 (60 * x1)) + x4)) + 1))))), none], [(0, (fQ_isBit v1 (xw32 (M (x0 + 3) (xw32 ((xw32 ((xw32 (60 * x1)) + x4)) + 1)))) M))], M) _
        refine xEvG_n xml xfetch 1 (y := (210, if (fQ_isBit v1 (xw32 (M (x0 + 3) (xw32 ((xw32 ((xw32 (60 * x1)) + x4)) + 1)))) M) = 0 then 88 else 75, [some (13, x0), some (0, x1), some (0, x2), some (0, x3), some (0, x4), some (0, (xw32 ((xw32 (60 * x1)) + x4))), some (0, (xw32 (M (x0 + 3) (xw32 ((xw32 (60 * x1)) + x4))))), some (0, (xw32 (M (x0 + 3) (xw32 ((xw32 ((xw32 (60 * x1)) + x4)) + 1))))), none], [], M)) rfl trivial ?_
        refine xEvG_br xml xfetch (fun c_ => ?_) (fun c_ => ?_)
        · have h := xif_t c_ h
          refine xEvG_n xml xfetch 1 (y := (210, 89, [some (13, x0), some (0, x1), some (0, x2), some (0, x3), some (0, x4), some (0, (xw32 ((xw32 (60 * x1)) + x4))), some (0, (xw32 (M (x0 + 3) (xw32 ((xw32 (60 * x1)) + x4))))), some (0, (xw32 (M (x0 + 3) (xw32 ((xw32 ((xw32 (60 * x1)) + x4)) + 1))))), none], [(0, 0)], M)) rfl trivial ?_
          refine xEvG_mask xml xfetch [true, true, true, true, true, true, true, true, false] ?_
          exact hQ_forgedOf_L89 (fQ_forgedOf_L5 g) (hQ_forgedOf_L5 g) x0 x1 x2 x3 x4 (xw32 ((xw32 (60 * x1)) + x4)) (xw32 (M (x0 + 3) (xw32 ((xw32 (60 * x1)) + x4)))) (xw32 (M (x0 + 3) (xw32 ((xw32 ((xw32 (60 * x1)) + x4)) + 1)))) 0 M _ h
        · have h := xif_f c_ h
          refine xEvG_n xml xfetch 2 (y := (210, 78, [some (13, x0), some (0, x1), some (0, x2), some (0, x3), some (0, x4), some (0, (xw32 ((xw32 (60 * x1)) + x4))), some (0, (xw32 (M (x0 + 3) (xw32 ((xw32 (60 * x1)) + x4))))), some (0, (xw32 (M (x0 + 3) (xw32 ((xw32 ((xw32 (60 * x1)) + x4)) + 1))))), none], [(0, (xw32 (M (x0 + 3) (xw32 ((xw32 ((xw32 (60 * x1)) + x4)) + 1))))), (13, x0)], M)) rfl trivial ?_
          obtain ⟨v4, e_, h⟩ := xB_t h
          refine xEvG_call xml xfetch (q := (some (0, v4), M)) rfl (hQ_isLoyal x0 (xw32 (M (x0 + 3) (xw32 ((xw32 ((xw32 (60 * x1)) + x4)) + 1)))) M _ e_) ?_
          show xEv (210, 81, [some (13, x0), some (0, x1), some (0, x2), some (0, x3), some (0, x4), some (0, (xw32 ((xw32 (60 * x1)) + x4))), some (0, (xw32 (M (x0 + 3) (xw32 ((xw32 (60 * x1)) + x4))))), some (0, (xw32 (M (x0 + 3) (xw32 ((xw32 ((xw32 (60 * x1)) + x4)) + 1))))), none], [(0, v4)], M) _
          refine xEvG_n xml xfetch 1 (y := (210, if v4 = 0 then 84 else 88, [some (13, x0), some (0, x1), some (0, x2), some (0, x3), some (0, x4), some (0, (xw32 ((xw32 (60 * x1)) + x4))), some (0, (xw32 (M (x0 + 3) (xw32 ((xw32 (60 * x1)) + x4))))), some (0, (xw32 (M (x0 + 3) (xw32 ((xw32 ((xw32 (60 * x1)) + x4)) + 1))))), none], [], M)) rfl trivial ?_
          refine xEvG_br xml xfetch (fun c_ => ?_) (fun c_ => ?_)
          · have h := xif_t c_ h
            refine xEvG_n xml xfetch 2 (y := (210, 89, [some (13, x0), some (0, x1), some (0, x2), some (0, x3), some (0, x4), some (0, (xw32 ((xw32 (60 * x1)) + x4))), some (0, (xw32 (M (x0 + 3) (xw32 ((xw32 (60 * x1)) + x4))))), some (0, (xw32 (M (x0 + 3) (xw32 ((xw32 ((xw32 (60 * x1)) + x4)) + 1))))), none], [(0, 1)], M)) rfl trivial ?_
            refine xEvG_mask xml xfetch [true, true, true, true, true, true, true, true, false] ?_
            exact hQ_forgedOf_L89 (fQ_forgedOf_L5 g) (hQ_forgedOf_L5 g) x0 x1 x2 x3 x4 (xw32 ((xw32 (60 * x1)) + x4)) (xw32 (M (x0 + 3) (xw32 ((xw32 (60 * x1)) + x4)))) (xw32 (M (x0 + 3) (xw32 ((xw32 ((xw32 (60 * x1)) + x4)) + 1)))) 1 M _ h
          · have h := xif_f c_ h
            refine xEvG_n xml xfetch 1 (y := (210, 89, [some (13, x0), some (0, x1), some (0, x2), some (0, x3), some (0, x4), some (0, (xw32 ((xw32 (60 * x1)) + x4))), some (0, (xw32 (M (x0 + 3) (xw32 ((xw32 (60 * x1)) + x4))))), some (0, (xw32 (M (x0 + 3) (xw32 ((xw32 ((xw32 (60 * x1)) + x4)) + 1))))), none], [(0, 0)], M)) rfl trivial ?_
            refine xEvG_mask xml xfetch [true, true, true, true, true, true, true, true, false] ?_
            exact hQ_forgedOf_L89 (fQ_forgedOf_L5 g) (hQ_forgedOf_L5 g) x0 x1 x2 x3 x4 (xw32 ((xw32 (60 * x1)) + x4)) (xw32 (M (x0 + 3) (xw32 ((xw32 (60 * x1)) + x4)))) (xw32 (M (x0 + 3) (xw32 ((xw32 ((xw32 (60 * x1)) + x4)) + 1)))) 0 M _ h
      · have h := xif_f c_ h
        refine xEvG_n xml xfetch 3 (y := (210, if (xw32 (M (x0 + 3) (xw32 ((xw32 ((xw32 (60 * x1)) + x4)) + 1)))) = x2 then 61 else 58, [some (13, x0), some (0, x1), some (0, x2), some (0, x3), some (0, x4), some (0, (xw32 ((xw32 (60 * x1)) + x4))), some (0, (xw32 (M (x0 + 3) (xw32 ((xw32 (60 * x1)) + x4))))), some (0, (xw32 (M (x0 + 3) (xw32 ((xw32 ((xw32 (60 * x1)) + x4)) + 1))))), none], [], M)) rfl trivial ?_
        refine xEvG_br xml xfetch (fun c_ => ?_) (fun c_ => ?_)
        · have h := xif_t c_ h
          refine xEvG_n xml xfetch 2 (y := (210, 64, [some (13, x0), some (0, x1), some (0, x2), some (0, x3), some (0, x4), some (0, (xw32 ((xw32 (60 * x1)) + x4))), some (0, (xw32 (M (x0 + 3) (xw32 ((xw32 (60 * x1)) + x4))))), some (0, (xw32 (M (x0 + 3) (xw32 ((xw32 ((xw32 (60 * x1)) + x4)) + 1))))), none], [(0, (xw32 (M (x0 + 3) (xw32 ((xw32 (60 * x1)) + x4))))), (13, x0)], M)) rfl trivial ?_
          obtain ⟨v5, e_, h⟩ := xB_t h
          refine xEvG_call xml xfetch (q := (some (0, v5), M)) rfl (hQ_outAhead x0 (xw32 (M (x0 + 3) (xw32 ((xw32 (60 * x1)) + x4)))) M _ e_) ?_
          show xEv (210, 67, [some (13, x0), some (0, x1), some (0, x2), some (0, x3), some (0, x4), some (0, (xw32 ((xw32 (60 * x1)) + x4))), some (0, (xw32 (M (x0 + 3) (xw32 ((xw32 (60 * x1)) + x4))))), some (0, (xw32 (M (x0 + 3) (xw32 ((xw32 ((xw32 (60 * x1)) + x4)) + 1))))), none], [(0, v5)], M) _
          refine xEvG_n xml xfetch 1 (y := (210, 69, [some (13, x0), some (0, x1), some (0, x2), some (0, x3), some (0, x4), some (0, (xw32 ((xw32 (60 * x1)) + x4))), some (0, (xw32 (M (x0 + 3) (xw32 ((xw32 (60 * x1)) + x4))))), some (0, (xw32 (M (x0 + 3) (xw32 ((xw32 ((xw32 (60 * x1)) + x4)) + 1))))), none], [(0, (xw32 (M (x0 + 3) (xw32 ((xw32 ((xw32 (60 * x1)) + x4)) + 1))))), (0, v5)], M)) rfl trivial ?_
          refine xEvG_call xml xfetch (q := (some (0, fQ_isBit v5 (xw32 (M (x0 + 3) (xw32 ((xw32 ((xw32 (60 * x1)) + x4)) + 1)))) M), M)) rfl (hQ_isBit v5 (xw32 (M (x0 + 3) (xw32 ((xw32 ((xw32 (60 * x1)) + x4)) + 1)))) M _ rfl) ?_
          show xEv (210, 72, [some (13, x0), some (0, x1), some (0, x2), some (0, x3), some (0, x4), some (0, (xw32 ((xw32 (60 * x1)) + x4))), some (0, (xw32 (M (x0 + 3) (xw32 ((xw32 (60 * x1)) + x4))))), some (0, (xw32 (M (x0 + 3) (xw32 ((xw32 ((xw32 (60 * x1)) + x4)) + 1))))), none], [(0, (fQ_isBit v5 (xw32 (M (x0 + 3) (xw32 ((xw32 ((xw32 (60 * x1)) + x4)) + 1)))) M))], M) _
          refine xEvG_n xml xfetch 1 (y := (210, if (fQ_isBit v5 (xw32 (M (x0 + 3) (xw32 ((xw32 ((xw32 (60 * x1)) + x4)) + 1)))) M) = 0 then 88 else 75, [some (13, x0), some (0, x1), some (0, x2), some (0, x3), some (0, x4), some (0, (xw32 ((xw32 (60 * x1)) + x4))), some (0, (xw32 (M (x0 + 3) (xw32 ((xw32 (60 * x1)) + x4))))), some (0, (xw32 (M (x0 + 3) (xw32 ((xw32 ((xw32 (60 * x1)) + x4)) + 1))))), none], [], M)) rfl trivial ?_
          refine xEvG_br xml xfetch (fun c_ => ?_) (fun c_ => ?_)
          · have h := xif_t c_ h
            refine xEvG_n xml xfetch 1 (y := (210, 89, [some (13, x0), some (0, x1), some (0, x2), some (0, x3), some (0, x4), some (0, (xw32 ((xw32 (60 * x1)) + x4))), some (0, (xw32 (M (x0 + 3) (xw32 ((xw32 (60 * x1)) + x4))))), some (0, (xw32 (M (x0 + 3) (xw32 ((xw32 ((xw32 (60 * x1)) + x4)) + 1))))), none], [(0, 0)], M)) rfl trivial ?_
            refine xEvG_mask xml xfetch [true, true, true, true, true, true, true, true, false] ?_
            exact hQ_forgedOf_L89 (fQ_forgedOf_L5 g) (hQ_forgedOf_L5 g) x0 x1 x2 x3 x4 (xw32 ((xw32 (60 * x1)) + x4)) (xw32 (M (x0 + 3) (xw32 ((xw32 (60 * x1)) + x4)))) (xw32 (M (x0 + 3) (xw32 ((xw32 ((xw32 (60 * x1)) + x4)) + 1)))) 0 M _ h
          · have h := xif_f c_ h
            refine xEvG_n xml xfetch 2 (y := (210, 78, [some (13, x0), some (0, x1), some (0, x2), some (0, x3), some (0, x4), some (0, (xw32 ((xw32 (60 * x1)) + x4))), some (0, (xw32 (M (x0 + 3) (xw32 ((xw32 (60 * x1)) + x4))))), some (0, (xw32 (M (x0 + 3) (xw32 ((xw32 ((xw32 (60 * x1)) + x4)) + 1))))), none], [(0, (xw32 (M (x0 + 3) (xw32 ((xw32 ((xw32 (60 * x1)) + x4)) + 1))))), (13, x0)], M)) rfl trivial ?_
            obtain ⟨v7, e_, h⟩ := xB_t h
            refine xEvG_call xml xfetch (q := (some (0, v7), M)) rfl (hQ_isLoyal x0 (xw32 (M (x0 + 3) (xw32 ((xw32 ((xw32 (60 * x1)) + x4)) + 1)))) M _ e_) ?_
            show xEv (210, 81, [some (13, x0), some (0, x1), some (0, x2), some (0, x3), some (0, x4), some (0, (xw32 ((xw32 (60 * x1)) + x4))), some (0, (xw32 (M (x0 + 3) (xw32 ((xw32 (60 * x1)) + x4))))), some (0, (xw32 (M (x0 + 3) (xw32 ((xw32 ((xw32 (60 * x1)) + x4)) + 1))))), none], [(0, v7)], M) _
            refine xEvG_n xml xfetch 1 (y := (210, if v7 = 0 then 84 else 88, [some (13, x0), some (0, x1), some (0, x2), some (0, x3), some (0, x4), some (0, (xw32 ((xw32 (60 * x1)) + x4))), some (0, (xw32 (M (x0 + 3) (xw32 ((xw32 (60 * x1)) + x4))))), some (0, (xw32 (M (x0 + 3) (xw32 ((xw32 ((xw32 (60 * x1)) + x4)) + 1))))), none], [], M)) rfl trivial ?_
            refine xEvG_br xml xfetch (fun c_ => ?_) (fun c_ => ?_)
            · have h := xif_t c_ h
              refine xEvG_n xml xfetch 2 (y := (210, 89, [some (13, x0), some (0, x1), some (0, x2), some (0, x3), some (0, x4), some (0, (xw32 ((xw32 (60 * x1)) + x4))), some (0, (xw32 (M (x0 + 3) (xw32 ((xw32 (60 * x1)) + x4))))), some (0, (xw32 (M (x0 + 3) (xw32 ((xw32 ((xw32 (60 * x1)) + x4)) + 1))))), none], [(0, 1)], M)) rfl trivial ?_
              refine xEvG_mask xml xfetch [true, true, true, true, true, true, true, true, false] ?_
              exact hQ_forgedOf_L89 (fQ_forgedOf_L5 g) (hQ_forgedOf_L5 g) x0 x1 x2 x3 x4 (xw32 ((xw32 (60 * x1)) + x4)) (xw32 (M (x0 + 3) (xw32 ((xw32 (60 * x1)) + x4)))) (xw32 (M (x0 + 3) (xw32 ((xw32 ((xw32 (60 * x1)) + x4)) + 1)))) 1 M _ h
            · have h := xif_f c_ h
              refine xEvG_n xml xfetch 1 (y := (210, 89, [some (13, x0), some (0, x1), some (0, x2), some (0, x3), some (0, x4), some (0, (xw32 ((xw32 (60 * x1)) + x4))), some (0, (xw32 (M (x0 + 3) (xw32 ((xw32 (60 * x1)) + x4))))), some (0, (xw32 (M (x0 + 3) (xw32 ((xw32 ((xw32 (60 * x1)) + x4)) + 1))))), none], [(0, 0)], M)) rfl trivial ?_
              refine xEvG_mask xml xfetch [true, true, true, true, true, true, true, true, false] ?_
              exact hQ_forgedOf_L89 (fQ_forgedOf_L5 g) (hQ_forgedOf_L5 g) x0 x1 x2 x3 x4 (xw32 ((xw32 (60 * x1)) + x4)) (xw32 (M (x0 + 3) (xw32 ((xw32 (60 * x1)) + x4)))) (xw32 (M (x0 + 3) (xw32 ((xw32 ((xw32 (60 * x1)) + x4)) + 1)))) 0 M _ h
        · have h := xif_f c_ h
          refine xEvG_n xml xfetch 3 (y := (210, 5, [some (13, x0), some (0, x1), some (0, x2), some (0, x3), some (0, (xw32 (x4 + 3))), some (0, (xw32 ((xw32 (60 * x1)) + x4))), some (0, (xw32 (M (x0 + 3) (xw32 ((xw32 (60 * x1)) + x4))))), some (0, (xw32 (M (x0 + 3) (xw32 ((xw32 ((xw32 (60 * x1)) + x4)) + 1))))), none], [], M)) rfl trivial ?_
          refine xEvG_mask xml xfetch [true, true, true, true, true, false, false, false, false] ?_
          exact (hQ_forgedOf_L5 g) x0 x1 x2 x3 (xw32 (x4 + 3)) M _ h
    · have h := xif_f c_ h
      refine xEvG_n xml xfetch 1 (y := (210, 132, [some (13, x0), some (0, x1), some (0, x2), some (0, x3), some (0, x4), none, none, none, none], [(0, x3)], M)) rfl trivial ?_
      cases h
      exact xEvG_ret xml xfetch rfl
/-- ConsentDoorsModel.forgedOf(II)I -/
def fQ_forgedOf (a0 a1 a2 : Int) (M : xM) : Option Int := fQ_forgedOf_L5 20001 a0 a1 a2 0 0 M
theorem hQ_forgedOf (a0 a1 a2 : Int) (M : xM) (r : Int) (h : fQ_forgedOf a0 a1 a2 M = some r) : xEv (210, 0, [some (13, a0), some (0, a1), some (0, a2), none, none, none, none, none, none], [], M) (some (0, r), M) := by
  unfold fQ_forgedOf at h
  refine xEvG_n xml xfetch 4 (y := (210, 5, [some (13, a0), some (0, a1), some (0, a2), some (0, 0), some (0, 0), none, none, none, none], [], M)) rfl trivial ?_
  refine xEvG_mask xml xfetch [true, true, true, true, true, false, false, false, false] ?_
  exact hQ_forgedOf_L5 20001 a0 a1 a2 0 0 M _ h

end
