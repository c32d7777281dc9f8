/-! the methods as functions, each with its proof (printed by wip/tools/fgen.py) -/
noncomputable section
def fQ_prison_L47 (k_13 : Int → xM → Option (Int × xM)) (x0 : Int) (M : xM) : Option (Int × xM) := if (fQ_isGood x0 M) = 0 then (k_13 x0 (xwr M (x0 + 6) 4 (xw32 ((M (x0 + 6) 4) + 1)))) else (xB (fQ_ends x0 M) (fun m10 => k_13 x0 (xwr m10 (x0 + 6) 4 (xw32 ((m10 (x0 + 6) 4) + 1)))))
theorem hQ_prison_L47 (k_13 : Int → xM → Option (Int × xM)) (hk_13 : ∀ (x0 : Int) (M : xM) (r : Int × xM), k_13 x0 M = some r → xEv (119, 13, [some (13, x0)], [], M) (some (0, r.1), r.2)) (x0 : Int) (M : xM) (r : Int × xM) (h : fQ_prison_L47 k_13 x0 M = some r) : xEv (119, 47, [some (13, x0)], [], M) (some (0, r.1), r.2) := by
  unfold fQ_prison_L47 at h
  refine xEvG_n xml xfetch 1 (y := (119, 48, [some (13, x0)], [(13, x0)], M)) rfl trivial ?_
  refine xEvG_call xml xfetch (q := (some (0, fQ_isGood x0 M), M)) rfl (hQ_isGood x0 M _ rfl) ?_
  show xEv (119, 51, [some (13, x0)], [(0, (fQ_isGood x0 M))], M) _
  refine xEvG_n xml xfetch 1 (y := (119, if (fQ_isGood x0 M) = 0 then 58 else 54, [some (13, x0)], [], M)) rfl trivial ?_
  refine xEvG_br xml xfetch (fun c_ => ?_) (fun c_ => ?_)
  · have h := xif_t c_ h
    refine xEvG_n xml xfetch 9 (y := (119, 13, [some (13, x0)], [], (xwr M (x0 + 6) 4 (xw32 ((M (x0 + 6) 4) + 1))))) rfl ⟨by decide, by decide, trivial⟩ ?_
    refine xEvG_mask xml xfetch [true] ?_
    exact hk_13 x0 (xwr M (x0 + 6) 4 (xw32 ((M (x0 + 6) 4) + 1))) _ h
  · have h := xif_f c_ h
    refine xEvG_n xml xfetch 1 (y := (119, 55, [some (13, x0)], [(13, x0)], M)) rfl trivial ?_
    obtain ⟨m10, e_, h⟩ := xB_t h
    refine xEvG_call xml xfetch (q := (none, m10)) rfl (hQ_ends x0 M _ e_) ?_
    show xEv (119, 58, [some (13, x0)], [], m10) _
    refine xEvG_n xml xfetch 9 (y := (119, 13, [some (13, x0)], [], (xwr m10 (x0 + 6) 4 (xw32 ((m10 (x0 + 6) 4) + 1))))) rfl ⟨by decide, by decide, trivial⟩ ?_
    refine xEvG_mask xml xfetch [true] ?_
    exact hk_13 x0 (xwr m10 (x0 + 6) 4 (xw32 ((m10 (x0 + 6) 4) + 1))) _ h
def fQ_prison_L13 : Nat → Int → xM → Option (Int × xM)
  | 0, _, _ => none
  | g + 1, x0, M => if (fQ_isGood x0 M) = 0 then (if ((fQ_isOver x0 M) x0 12) = 0 then (xB (fQ_copyPrison x0 4 0 (fQ_isOver x0 M)) (fun m5 => some ((m5 (x0 + 6) 0), m5))) else (some ((-4), (fQ_isOver x0 M)))) else (if (M x0 8) = 0 then (if ((fQ_isOver x0 M) x0 12) = 0 then (xB (fQ_copyPrison x0 4 0 (fQ_isOver x0 M)) (fun m7 => some ((m7 (x0 + 6) 0), m7))) else (some ((-4), (fQ_isOver x0 M)))) else (if (M (x0 + 6) 4) = 0 then (xB (fQ_first x0 M) (fun m8 => fQ_prison_L47 (fQ_prison_L13 g) x0 m8)) else (xB (fQ_line x0 M) (fun m11 => if (fQ_isGood x0 m11) = 0 then ((fQ_prison_L13 g) x0 (xwr m11 (x0 + 6) 4 (xw32 ((m11 (x0 + 6) 4) + 1)))) else (xB (fQ_ends x0 m11) (fun m13 => (fQ_prison_L13 g) x0 (xwr m13 (x0 + 6) 4 (xw32 ((m13 (x0 + 6) 4) + 1)))))))))
theorem hQ_prison_L13 : ∀ (g : Nat) (x0 : Int) (M : xM) (r : Int × xM) (h : fQ_prison_L13 g x0 M = some r), xEv (119, 13, [some (13, x0)], [], M) (some (0, r.1), r.2)
  | 0, _, _, _, h => by cases h
  | g + 1, x0, M, r, h => by
    unfold fQ_prison_L13 at h
    refine xEvG_n xml xfetch 1 (y := (119, 14, [some (13, x0)], [(13, x0)], M)) rfl trivial ?_
    refine xEvG_call xml xfetch (q := (some (0, fQ_isGood x0 M), M)) rfl (hQ_isGood x0 M _ rfl) ?_
    show xEv (119, 17, [some (13, x0)], [(0, (fQ_isGood x0 M))], M) _
    refine xEvG_n xml xfetch 1 (y := (119, if (fQ_isGood x0 M) = 0 then 71 else 20, [some (13, x0)], [], M)) rfl trivial ?_
    refine xEvG_br xml xfetch (fun c_ => ?_) (fun c_ => ?_)
    · have h := xif_t c_ h
      refine xEvG_n xml xfetch 1 (y := (119, 72, [some (13, x0)], [(13, x0)], M)) rfl trivial ?_
      refine xEvG_call xml xfetch (q := (none, fQ_isOver x0 M)) rfl (hQ_isOver x0 M _ rfl) ?_
      show xEv (119, 75, [some (13, x0)], [], (fQ_isOver x0 M)) _
      refine xEvG_n xml xfetch 3 (y := (119, if ((fQ_isOver x0 M) x0 12) = 0 then 85 else 82, [some (13, x0)], [], (fQ_isOver x0 M))) rfl trivial ?_
      refine xEvG_br xml xfetch (fun c_ => ?_) (fun c_ => ?_)
      · have h := xif_t c_ h
        refine xEvG_n xml xfetch 3 (y := (119, 88, [some (13, x0)], [(0, 0), (0, 4), (13, x0)], (fQ_isOver x0 M))) rfl trivial ?_
        obtain ⟨m5, e_, h⟩ := xB_t h
        refine xEvG_call xml xfetch (q := (none, m5)) rfl (hQ_copyPrison x0 4 0 (fQ_isOver x0 M) _ e_) ?_
        show xEv (119, 91, [some (13, x0)], [], m5) _
        refine xEvG_n xml xfetch 4 (y := (119, 97, [some (13, x0)], [(0, (m5 (x0 + 6) 0))], m5)) rfl ⟨by decide, trivial⟩ ?_
        cases h
        exact xEvG_ret xml xfetch rfl
      · have h := xif_f c_ h
        refine xEvG_n xml xfetch 1 (y := (119, 84, [some (13, x0)], [(0, (-4))], (fQ_isOver x0 M))) rfl trivial ?_
        cases h
        exact xEvG_ret xml xfetch rfl
    · have h := xif_f c_ h
      refine xEvG_n xml xfetch 3 (y := (119, if (M x0 8) = 0 then 71 else 27, [some (13, x0)], [], M)) rfl trivial ?_
      refine xEvG_br xml xfetch (fun c_ => ?_) (fun c_ => ?_)
      · have h := xif_t c_ h
        refine xEvG_n xml xfetch 1 (y := (119, 72, [some (13, x0)], [(13, x0)], M)) rfl trivial ?_
        refine xEvG_call xml xfetch (q := (none, fQ_isOver x0 M)) rfl (hQ_isOver x0 M _ rfl) ?_
        show xEv (119, 75, [some (13, x0)], [], (fQ_isOver x0 M)) _
        refine xEvG_n xml xfetch 3 (y := (119, if ((fQ_isOver x0 M) x0 12) = 0 then 85 else 82, [some (13, x0)], [], (fQ_isOver x0 M))) rfl trivial ?_
        refine xEvG_br xml xfetch (fun c_ => ?_) (fun c_ => ?_)
        · have h := xif_t c_ h
          refine xEvG_n xml xfetch 3 (y := (119, 88, [some (13, x0)], [(0, 0), (0, 4), (13, x0)], (fQ_isOver x0 M))) rfl trivial ?_
          obtain ⟨m7, e_, h⟩ := xB_t h
          refine xEvG_call xml xfetch (q := (none, m7)) rfl (hQ_copyPrison x0 4 0 (fQ_isOver x0 M) _ e_) ?_
          show xEv (119, 91, [some (13, x0)], [], m7) _
          refine xEvG_n xml xfetch 4 (y := (119, 97, [some (13, x0)], [(0, (m7 (x0 + 6) 0))], m7)) rfl ⟨by decide, trivial⟩ ?_
          cases h
          exact xEvG_ret xml xfetch rfl
        · have h := xif_f c_ h
          refine xEvG_n xml xfetch 1 (y := (119, 84, [some (13, x0)], [(0, (-4))], (fQ_isOver x0 M))) rfl trivial ?_
          cases h
          exact xEvG_ret xml xfetch rfl
      · have h := xif_f c_ h
        refine xEvG_n xml xfetch 5 (y := (119, if (M (x0 + 6) 4) = 0 then 36 else 43, [some (13, x0)], [], M)) rfl ⟨by decide, trivial⟩ ?_
        refine xEvG_br xml xfetch (fun c_ => ?_) (fun c_ => ?_)
        · have h := xif_t c_ h
          refine xEvG_n xml xfetch 1 (y := (119, 37, [some (13, x0)], [(13, x0)], M)) rfl trivial ?_
          obtain ⟨m8, e_, h⟩ := xB_t h
          refine xEvG_call xml xfetch (q := (none, m8)) rfl (hQ_first x0 M _ e_) ?_
          show xEv (119, 40, [some (13, x0)], [], m8) _
          refine xEvG_n xml xfetch 1 (y := (119, 47, [some (13, x0)], [], m8)) rfl trivial ?_
          refine xEvG_mask xml xfetch [true] ?_
          exact hQ_prison_L47 (fQ_prison_L13 g) (hQ_prison_L13 g) x0 m8 _ h
        · have h := xif_f c_ h
          refine xEvG_n xml xfetch 1 (y := (119, 44, [some (13, x0)], [(13, x0)], M)) rfl trivial ?_
          obtain ⟨m11, e_, h⟩ := xB_t h
          refine xEvG_call xml xfetch (q := (none, m11)) rfl (hQ_line x0 M _ e_) ?_
          show xEv (119, 47, [some (13, x0)], [], m11) _
          refine xEvG_n xml xfetch 1 (y := (119, 48, [some (13, x0)], [(13, x0)], m11)) rfl trivial ?_
          refine xEvG_call xml xfetch (q := (some (0, fQ_isGood x0 m11), m11)) rfl (hQ_isGood x0 m11 _ rfl) ?_
          show xEv (119, 51, [some (13, x0)], [(0, (fQ_isGood x0 m11))], m11) _
          refine xEvG_n xml xfetch 1 (y := (119, if (fQ_isGood x0 m11) = 0 then 58 else 54, [some (13, x0)], [], m11)) rfl trivial ?_
          refine xEvG_br xml xfetch (fun c_ => ?_) (fun c_ => ?_)
          · have h := xif_t c_ h
            refine xEvG_n xml xfetch 9 (y := (119, 13, [some (13, x0)], [], (xwr m11 (x0 + 6) 4 (xw32 ((m11 (x0 + 6) 4) + 1))))) rfl ⟨by decide, by decide, trivial⟩ ?_
            refine xEvG_mask xml xfetch [true] ?_
            exact (hQ_prison_L13 g) x0 (xwr m11 (x0 + 6) 4 (xw32 ((m11 (x0 + 6) 4) + 1))) _ h
          · have h := xif_f c_ h
            refine xEvG_n xml xfetch 1 (y := (119, 55, [some (13, x0)], [(13, x0)], m11)) rfl trivial ?_
            obtain ⟨m13, e_, h⟩ := xB_t h
            refine xEvG_call xml xfetch (q := (none, m13)) rfl (hQ_ends x0 m11 _ e_) ?_
            show xEv (119, 58, [some (13, x0)], [], m13) _
            refine xEvG_n xml xfetch 9 (y := (119, 13, [some (13, x0)], [], (xwr m13 (x0 + 6) 4 (xw32 ((m13 (x0 + 6) 4) + 1))))) rfl ⟨by decide, by decide, trivial⟩ ?_
            refine xEvG_mask xml xfetch [true] ?_
            exact (hQ_prison_L13 g) x0 (xwr m13 (x0 + 6) 4 (xw32 ((m13 (x0 + 6) 4) + 1))) _ h
/-- ConsentDoorsModel.prison()I -/
def fQ_prison (a0 : Int) (M : xM) : Option (Int × xM) := xB (fQ_clears a0 (xwr M a0 0 0)) (fun m1 => xB (fQ_begins a0 m1) (fun m2 => fQ_prison_L13 20001 a0 m2))
theorem hQ_prison (a0 : Int) (M : xM) (r : Int × xM) (h : fQ_prison a0 M = some r) : xEv (119, 0, [some (13, a0)], [], M) (some (0, r.1), r.2) := by
  unfold fQ_prison at h
  refine xEvG_n xml xfetch 4 (y := (119, 6, [some (13, a0)], [(13, a0)], (xwr M a0 0 0))) rfl trivial ?_
  obtain ⟨m1, e_, h⟩ := xB_t h
  refine xEvG_call xml xfetch (q := (none, m1)) rfl (hQ_clears a0 (xwr M a0 0 0) _ e_) ?_
  show xEv (119, 9, [some (13, a0)], [], m1) _
  refine xEvG_n xml xfetch 1 (y := (119, 10, [some (13, a0)], [(13, a0)], m1)) rfl trivial ?_
  obtain ⟨m2, e_, h⟩ := xB_t h
  refine xEvG_call xml xfetch (q := (none, m2)) rfl (hQ_begins a0 m1 _ e_) ?_
  show xEv (119, 13, [some (13, a0)], [], m2) _
  refine xEvG_mask xml xfetch [true] ?_
  exact hQ_prison_L13 20001 a0 m2 _ h

/-- ConsentDoorsModel.isCell(J)Z -/
def fQ_isCell (a0 a1 : Int) (M : xM) : Int := (fQ_in a1 0 (xw64 ((M (a0 + 7) 0) - 1)) M)
theorem hQ_isCell (a0 a1 : Int) (M : xM) (r : Int) (h : fQ_isCell a0 a1 M = r) : xEv (123, 0, [some (13, a0), some (1, a1), none], [], M) (some (0, r), M) := by
  unfold fQ_isCell at h
  refine xEvG_n xml xfetch 9 (y := (123, 11, [some (13, a0), some (1, a1), none], [(1, (xw64 ((M (a0 + 7) 0) - 1))), (1, 0), (1, a1)], M)) rfl ⟨by decide, trivial⟩ ?_
  refine xEvG_call xml xfetch (q := (some (0, fQ_in a1 0 (xw64 ((M (a0 + 7) 0) - 1)) M), M)) rfl (hQ_in a1 0 (xw64 ((M (a0 + 7) 0) - 1)) M _ rfl) ?_
  show xEv (123, 14, [some (13, a0), some (1, a1), none], [(0, (fQ_in a1 0 (xw64 ((M (a0 + 7) 0) - 1)) M))], M) _
  subst h
  exact xEvG_retc xml xfetch rfl (bQ_in a1 0 (xw64 ((M (a0 + 7) 0) - 1)) M)
theorem bQ_isCell (a0 a1 : Int) (M : xM) : fQ_isCell a0 a1 M = 0 ∨ fQ_isCell a0 a1 M = 1 := by
  unfold fQ_isCell
  (repeat' split) <;> first | exact Or.inl rfl | exact Or.inr rfl | exact bD_isDrawing _ _ _ | exact bD_isPoints _ _ | exact bD_isSide _ _ | exact bD_isSlot _ _ | exact bPrison_hasCell _ _ _ | exact bPrison_hasHour _ _ _ | exact bPrison_stands _ _ | exact bQ_in _ _ _ _ | exact bQ_is _ _ _ | exact bQ_isGood _ _ | exact bQ_isSlot _ _ | exact bSlot_holds _ _ _ _ | exact bSlot_isBelow _ _ _

def fQ_cell_L52 : Nat → Int → Int → Int → Int → xM → Option (Int × xM)
  | 0, _, _, _, _, _ => none
  | g + 1, x0, x1, x3, x4, M => if x4 < (M (x0 + 7) 5) then (xA (0 ≤ (xw32 (3 * x4)) ∧ (xw32 (3 * x4)) < 120) (if (M (x0 + 9) (xw32 (3 * x4))) = x1 then ((fQ_cell_L52 g) x0 x1 (xw32 (x3 + 1)) (xw32 (x4 + 1)) M) else ((fQ_cell_L52 g) x0 x1 (xw32 (x3 + 0)) (xw32 (x4 + 1)) M))) else (some (x3, M))
theorem hQ_cell_L52 : ∀ (g : Nat) (x0 x1 x3 x4 : Int) (M : xM) (r : Int × xM) (h : fQ_cell_L52 g x0 x1 x3 x4 M = some r), xEv (128, 52, [some (13, x0), some (0, x1), none, some (0, x3), some (0, x4)], [], M) (some (0, r.1), r.2)
  | 0, _, _, _, _, _, _, h => by cases h
  | g + 1, x0, x1, x3, x4, M, r, h => by
    unfold fQ_cell_L52 at h
    refine xEvG_n xml xfetch 6 (y := (128, if x4 < (M (x0 + 7) 5) then 63 else 90, [some (13, x0), some (0, x1), none, some (0, x3), some (0, x4)], [], M)) rfl ⟨by decide, trivial⟩ ?_
    refine xEvG_br xml xfetch (fun c_ => ?_) (fun c_ => ?_)
    · have h := xif_t c_ h
      have a0_ := (xA_t h).1
      have h := (xA_t h).2
      refine xEvG_n xml xfetch 9 (y := (128, if (M (x0 + 9) (xw32 (3 * x4))) = x1 then 77 else 81, [some (13, x0), some (0, x1), none, some (0, x3), some (0, x4)], [(0, x3)], M)) rfl ⟨a0_, trivial⟩ ?_
      refine xEvG_br xml xfetch (fun c_ => ?_) (fun c_ => ?_)
      · have h := xif_t c_ h
        refine xEvG_n xml xfetch 6 (y := (128, 52, [some (13, x0), some (0, x1), none, some (0, (xw32 (x3 + 1))), some (0, (xw32 (x4 + 1)))], [], M)) rfl trivial ?_
        refine xEvG_mask xml xfetch [true, true, false, true, true] ?_
        exact (hQ_cell_L52 g) x0 x1 (xw32 (x3 + 1)) (xw32 (x4 + 1)) M _ h
      · have h := xif_f c_ h
        refine xEvG_n xml xfetch 5 (y := (128, 52, [some (13, x0), some (0, x1), none, some (0, (xw32 (x3 + 0))), some (0, (xw32 (x4 + 1)))], [], M)) rfl trivial ?_
        refine xEvG_mask xml xfetch [true, true, false, true, true] ?_
        exact (hQ_cell_L52 g) x0 x1 (xw32 (x3 + 0)) (xw32 (x4 + 1)) M _ h
    · have h := xif_f c_ h
      refine xEvG_n xml xfetch 1 (y := (128, 91, [some (13, x0), some (0, x1), none, some (0, x3), some (0, x4)], [(0, x3)], M)) rfl trivial ?_
      cases h
      exact xEvG_ret xml xfetch rfl
/-- ConsentDoorsModel.cell(II)I -/
def fQ_cell (a0 a1 a2 : Int) (M : xM) : Option (Int × xM) := if (fQ_isCell a0 a1 (xwr M a0 0 0)) = 0 then (some ((-2), (xwr M a0 0 0))) else (if (fQ_in a2 0 6 (xwr M a0 0 0)) = 0 then (some ((-2), (xwr M a0 0 0))) else (if a2 < 6 then (xA (0 ≤ (xw32 ((xw32 (6 * a1)) + a2)) ∧ (xw32 ((xw32 (6 * a1)) + a2)) < 270) (some (((xwr M a0 0 0) (a0 + 8) (xw32 ((xw32 (6 * a1)) + a2))), (xwr M a0 0 0)))) else (fQ_cell_L52 20001 a0 a1 0 0 (xwr M a0 0 0))))
theorem hQ_cell (a0 a1 a2 : Int) (M : xM) (r : Int × xM) (h : fQ_cell a0 a1 a2 M = some r) : xEv (128, 0, [some (13, a0), some (0, a1), some (0, a2), none, none], [], M) (some (0, r.1), r.2) := by
  unfold fQ_cell at h
  refine xEvG_n xml xfetch 6 (y := (128, 8, [some (13, a0), some (0, a1), some (0, a2), none, none], [(1, a1), (13, a0)], (xwr M a0 0 0))) rfl trivial ?_
  refine xEvG_call xml xfetch (q := (some (0, fQ_isCell a0 a1 (xwr M a0 0 0)), (xwr M a0 0 0))) rfl (hQ_isCell a0 a1 (xwr M a0 0 0) _ rfl) ?_
  show xEv (128, 11, [some (13, a0), some (0, a1), some (0, a2), none, none], [(0, (fQ_isCell a0 a1 (xwr M a0 0 0)))], (xwr M a0 0 0)) _
  refine xEvG_n xml xfetch 1 (y := (128, if (fQ_isCell a0 a1 (xwr M a0 0 0)) = 0 then 26 else 14, [some (13, a0), some (0, a1), some (0, a2), none, none], [], (xwr M a0 0 0))) rfl trivial ?_
  refine xEvG_br xml xfetch (fun c_ => ?_) (fun c_ => ?_)
  · have h := xif_t c_ h
    refine xEvG_n xml xfetch 1 (y := (128, 28, [some (13, a0), some (0, a1), some (0, a2), none, none], [(0, (-2))], (xwr M a0 0 0))) rfl trivial ?_
    cases h
    exact xEvG_ret xml xfetch rfl
  · have h := xif_f c_ h
    refine xEvG_n xml xfetch 4 (y := (128, 20, [some (13, a0), some (0, a1), some (0, a2), none, none], [(1, 6), (1, 0), (1, a2)], (xwr M a0 0 0))) rfl trivial ?_
    refine xEvG_call xml xfetch (q := (some (0, fQ_in a2 0 6 (xwr M a0 0 0)), (xwr M a0 0 0))) rfl (hQ_in a2 0 6 (xwr M a0 0 0) _ rfl) ?_
    show xEv (128, 23, [some (13, a0), some (0, a1), some (0, a2), none, none], [(0, (fQ_in a2 0 6 (xwr M a0 0 0)))], (xwr M a0 0 0)) _
    refine xEvG_n xml xfetch 1 (y := (128, if (fQ_in a2 0 6 (xwr M a0 0 0)) = 0 then 26 else 29, [some (13, a0), some (0, a1), some (0, a2), none, none], [], (xwr M a0 0 0))) rfl trivial ?_
    refine xEvG_br xml xfetch (fun c_ => ?_) (fun c_ => ?_)
    · have h := xif_t c_ h
      refine xEvG_n xml xfetch 1 (y := (128, 28, [some (13, a0), some (0, a1), some (0, a2), none, none], [(0, (-2))], (xwr M a0 0 0))) rfl trivial ?_
      cases h
      exact xEvG_ret xml xfetch rfl
    · have h := xif_f c_ h
      refine xEvG_n xml xfetch 3 (y := (128, if a2 < 6 then 35 else 47, [some (13, a0), some (0, a1), some (0, a2), none, none], [], (xwr M a0 0 0))) rfl trivial ?_
      refine xEvG_br xml xfetch (fun c_ => ?_) (fun c_ => ?_)
      · have h := xif_t c_ h
        have a0_ := (xA_t h).1
        have h := (xA_t h).2
        refine xEvG_n xml xfetch 8 (y := (128, 46, [some (13, a0), some (0, a1), some (0, a2), none, none], [(0, ((xwr M a0 0 0) (a0 + 8) (xw32 ((xw32 (6 * a1)) + a2))))], (xwr M a0 0 0))) rfl ⟨a0_, trivial⟩ ?_
        cases h
        exact xEvG_ret xml xfetch rfl
      · have h := xif_f c_ h
        refine xEvG_n xml xfetch 4 (y := (128, 52, [some (13, a0), some (0, a1), some (0, a2), some (0, 0), some (0, 0)], [], (xwr M a0 0 0))) rfl trivial ?_
        refine xEvG_mask xml xfetch [true, true, false, true, true] ?_
        exact hQ_cell_L52 20001 a0 a1 0 0 (xwr M a0 0 0) _ h

/-- ConsentDoorsModel.isSide(J)Z -/
def fQ_isSide (a0 : Int) (M : xM) : Int := (fQ_in a0 0 1 M)
theorem hQ_isSide (a0 : Int) (M : xM) (r : Int) (h : fQ_isSide a0 M = r) : xEv (125, 0, [some (1, a0), none], [], M) (some (0, r), M) := by
  unfold fQ_isSide at h
  refine xEvG_n xml xfetch 3 (y := (125, 3, [some (1, a0), none], [(1, 1), (1, 0), (1, a0)], M)) rfl trivial ?_
  refine xEvG_call xml xfetch (q := (some (0, fQ_in a0 0 1 M), M)) rfl (hQ_in a0 0 1 M _ rfl) ?_
  show xEv (125, 6, [some (1, a0), none], [(0, (fQ_in a0 0 1 M))], M) _
  subst h
  exact xEvG_retc xml xfetch rfl (bQ_in a0 0 1 M)
theorem bQ_isSide (a0 : Int) (M : xM) : fQ_isSide a0 M = 0 ∨ fQ_isSide a0 M = 1 := by
  unfold fQ_isSide
  (repeat' split) <;> first | exact Or.inl rfl | exact Or.inr rfl | exact bD_isDrawing _ _ _ | exact bD_isPoints _ _ | exact bD_isSide _ _ | exact bD_isSlot _ _ | exact bPrison_hasCell _ _ _ | exact bPrison_hasHour _ _ _ | exact bPrison_stands _ _ | exact bQ_in _ _ _ _ | exact bQ_is _ _ _ | exact bQ_isCell _ _ _ | exact bQ_isGood _ _ | exact bQ_isSlot _ _ | exact bSlot_holds _ _ _ _ | exact bSlot_isBelow _ _ _

/-- ConsentDoorsModel.beside(II)I -/
def fQ_beside (a0 a1 a2 : Int) (M : xM) : Option (Int × xM) := if (fQ_isCell a0 a1 (xwr M a0 0 0)) = 0 then (some ((-2), (xwr M a0 0 0))) else (if (fQ_isSide a2 (xwr M a0 0 0)) = 0 then (some ((-2), (xwr M a0 0 0))) else (xB (fQ_besideIn a0 0 a1 a2 (xwr M a0 0 0)) (fun v3 => some (v3, (xwr M a0 0 0)))))
theorem hQ_beside (a0 a1 a2 : Int) (M : xM) (r : Int × xM) (h : fQ_beside a0 a1 a2 M = some r) : xEv (129, 0, [some (13, a0), some (0, a1), some (0, a2)], [], M) (some (0, r.1), r.2) := by
  unfold fQ_beside at h
  refine xEvG_n xml xfetch 6 (y := (129, 8, [some (13, a0), some (0, a1), some (0, a2)], [(1, a1), (13, a0)], (xwr M a0 0 0))) rfl trivial ?_
  refine xEvG_call xml xfetch (q := (some (0, fQ_isCell a0 a1 (xwr M a0 0 0)), (xwr M a0 0 0))) rfl (hQ_isCell a0 a1 (xwr M a0 0 0) _ rfl) ?_
  show xEv (129, 11, [some (13, a0), some (0, a1), some (0, a2)], [(0, (fQ_isCell a0 a1 (xwr M a0 0 0)))], (xwr M a0 0 0)) _
  refine xEvG_n xml xfetch 1 (y := (129, if (fQ_isCell a0 a1 (xwr M a0 0 0)) = 0 then 32 else 14, [some (13, a0), some (0, a1), some (0, a2)], [], (xwr M a0 0 0))) rfl trivial ?_
  refine xEvG_br xml xfetch (fun c_ => ?_) (fun c_ => ?_)
  · have h := xif_t c_ h
    refine xEvG_n xml xfetch 1 (y := (129, 34, [some (13, a0), some (0, a1), some (0, a2)], [(0, (-2))], (xwr M a0 0 0))) rfl trivial ?_
    cases h
    exact xEvG_ret xml xfetch rfl
  · have h := xif_f c_ h
    refine xEvG_n xml xfetch 2 (y := (129, 16, [some (13, a0), some (0, a1), some (0, a2)], [(1, a2)], (xwr M a0 0 0))) rfl trivial ?_
    refine xEvG_call xml xfetch (q := (some (0, fQ_isSide a2 (xwr M a0 0 0)), (xwr M a0 0 0))) rfl (hQ_isSide a2 (xwr M a0 0 0) _ rfl) ?_
    show xEv (129, 19, [some (13, a0), some (0, a1), some (0, a2)], [(0, (fQ_isSide a2 (xwr M a0 0 0)))], (xwr M a0 0 0)) _
    refine xEvG_n xml xfetch 1 (y := (129, if (fQ_isSide a2 (xwr M a0 0 0)) = 0 then 32 else 22, [some (13, a0), some (0, a1), some (0, a2)], [], (xwr M a0 0 0))) rfl trivial ?_
    refine xEvG_br xml xfetch (fun c_ => ?_) (fun c_ => ?_)
    · have h := xif_t c_ h
      refine xEvG_n xml xfetch 1 (y := (129, 34, [some (13, a0), some (0, a1), some (0, a2)], [(0, (-2))], (xwr M a0 0 0))) rfl trivial ?_
      cases h
      exact xEvG_ret xml xfetch rfl
    · have h := xif_f c_ h
      refine xEvG_n xml xfetch 4 (y := (129, 26, [some (13, a0), some (0, a1), some (0, a2)], [(0, a2), (0, a1), (0, 0), (13, a0)], (xwr M a0 0 0))) rfl trivial ?_
      obtain ⟨v3, e_, h⟩ := xB_t h
      refine xEvG_call xml xfetch (q := (some (0, v3), (xwr M a0 0 0))) rfl (hQ_besideIn a0 0 a1 a2 (xwr M a0 0 0) _ e_) ?_
      show xEv (129, 29, [some (13, a0), some (0, a1), some (0, a2)], [(0, v3)], (xwr M a0 0 0)) _
      refine xEvG_n xml xfetch 1 (y := (129, 34, [some (13, a0), some (0, a1), some (0, a2)], [(0, v3)], (xwr M a0 0 0))) rfl trivial ?_
      cases h
      exact xEvG_ret xml xfetch rfl

/-- ConsentDoorsModel.plainly()V -/
def fQ_plainly (a0 : Int) (M : xM) : xM := (xwr (xwr (xwr (xwr (xwr (xwr (xwr (xwr (xwr M a0 23 0) a0 24 0) a0 25 0) a0 26 0) a0 27 0) a0 28 0) a0 29 0) a0 30 (-1)) a0 35 0)
theorem hQ_plainly (a0 : Int) (M : xM) (r : xM) (h : fQ_plainly a0 M = r) : xEv (130, 0, [some (13, a0)], [], M) (none, r) := by
  unfold fQ_plainly at h
  refine xEvG_n xml xfetch 27 (y := (130, 45, [some (13, a0)], [], (xwr (xwr (xwr (xwr (xwr (xwr (xwr (xwr (xwr M a0 23 0) a0 24 0) a0 25 0) a0 26 0) a0 27 0) a0 28 0) a0 29 0) a0 30 (-1)) a0 35 0))) rfl ⟨(Or.inl rfl), (Or.inl rfl), (Or.inl rfl), (Or.inl rfl), trivial⟩ ?_
  subst h
  exact xEvG_ret xml xfetch rfl

/-- ConsentDoorsModel.isHour(J)Z -/
def fQ_isHour (a0 a1 : Int) (M : xM) : Int := (fQ_in a1 0 (xw64 ((M (a0 + 7) 1) - 1)) M)
theorem hQ_isHour (a0 a1 : Int) (M : xM) (r : Int) (h : fQ_isHour a0 a1 M = r) : xEv (124, 0, [some (13, a0), some (1, a1), none], [], M) (some (0, r), M) := by
  unfold fQ_isHour at h
  refine xEvG_n xml xfetch 9 (y := (124, 11, [some (13, a0), some (1, a1), none], [(1, (xw64 ((M (a0 + 7) 1) - 1))), (1, 0), (1, a1)], M)) rfl ⟨by decide, trivial⟩ ?_
  refine xEvG_call xml xfetch (q := (some (0, fQ_in a1 0 (xw64 ((M (a0 + 7) 1) - 1)) M), M)) rfl (hQ_in a1 0 (xw64 ((M (a0 + 7) 1) - 1)) M _ rfl) ?_
  show xEv (124, 14, [some (13, a0), some (1, a1), none], [(0, (fQ_in a1 0 (xw64 ((M (a0 + 7) 1) - 1)) M))], M) _
  subst h
  exact xEvG_retc xml xfetch rfl (bQ_in a1 0 (xw64 ((M (a0 + 7) 1) - 1)) M)
theorem bQ_isHour (a0 a1 : Int) (M : xM) : fQ_isHour a0 a1 M = 0 ∨ fQ_isHour a0 a1 M = 1 := by
  unfold fQ_isHour
  (repeat' split) <;> first | exact Or.inl rfl | exact Or.inr rfl | exact bD_isDrawing _ _ _ | exact bD_isPoints _ _ | exact bD_isSide _ _ | exact bD_isSlot _ _ | exact bPrison_hasCell _ _ _ | exact bPrison_hasHour _ _ _ | exact bPrison_stands _ _ | exact bQ_in _ _ _ _ | exact bQ_is _ _ _ | exact bQ_isCell _ _ _ | exact bQ_isGood _ _ | exact bQ_isSide _ _ | exact bQ_isSlot _ _ | exact bSlot_holds _ _ _ _ | exact bSlot_isBelow _ _ _

def fQ_likesOf_L52 : Nat → Int → Int → Int → Int → Int → Int → Int → xM → Option Int
  | 0, _, _, _, _, _, _, _, _ => none
  | g + 1, x0, x1, x2, x3, x4, x5, x6, M => if x6 < (M (x0 + 7) 6) then (xA (0 ≤ (xw32 (4 * x6)) ∧ (xw32 (4 * x6)) < 160) (if (M (x0 + 10) (xw32 (4 * x6))) = x5 then (xA (0 ≤ (xw32 ((xw32 (4 * x6)) + 1)) ∧ (xw32 ((xw32 (4 * x6)) + 1)) < 160) (if (M (x0 + 10) (xw32 ((xw32 (4 * x6)) + 1))) = (xw32 (1 - x2)) then (xA (0 ≤ (xw32 ((xw32 (4 * x6)) + 3)) ∧ (xw32 ((xw32 (4 * x6)) + 3)) < 160) (if x3 < (M (x0 + 10) (xw32 ((xw32 (4 * x6)) + 3))) then ((fQ_likesOf_L52 g) x0 x1 x2 x3 x4 x5 (xw32 (x6 + 1)) M) else (xA (0 ≤ (xw32 ((xw32 (4 * x6)) + 2)) ∧ (xw32 ((xw32 (4 * x6)) + 2)) < 160) ((fQ_likesOf_L52 g) x0 x1 x2 x3 (xw32 (x4 + (M (x0 + 10) (xw32 ((xw32 (4 * x6)) + 2))))) x5 (xw32 (x6 + 1)) M)))) else ((fQ_likesOf_L52 g) x0 x1 x2 x3 x4 x5 (xw32 (x6 + 1)) M))) else ((fQ_likesOf_L52 g) x0 x1 x2 x3 x4 x5 (xw32 (x6 + 1)) M))) else (some (if (M x0 30) = x1 then (if (M x0 31) = x2 then (if x3 < (M x0 33) then x4 else (xw32 (x4 + (M x0 32))) : Int) else x4 : Int) else x4 : Int))
theorem hQ_likesOf_L52 : ∀ (g : Nat) (x0 x1 x2 x3 x4 x5 x6 : Int) (M : xM) (r : Int) (h : fQ_likesOf_L52 g x0 x1 x2 x3 x4 x5 x6 M = some r), xEv (135, 52, [some (13, x0), some (0, x1), some (0, x2), some (0, x3), some (0, x4), some (0, x5), some (0, x6)], [], M) (some (0, r), M)
  | 0, _, _, _, _, _, _, _, _, _, h => by cases h
  | g + 1, x0, x1, x2, x3, x4, x5, x6, M, r, h => by
    unfold fQ_likesOf_L52 at h
    refine xEvG_n xml xfetch 6 (y := (135, if x6 < (M (x0 + 7) 6) then 64 else 132, [some (13, x0), some (0, x1), some (0, x2), some (0, x3), some (0, x4), some (0, x5), some (0, x6)], [], M)) rfl ⟨by decide, trivial⟩ ?_
    refine xEvG_br xml xfetch (fun c_ => ?_) (fun c_ => ?_)
    · have h := xif_t c_ h
      have a0_ := (xA_t h).1
      have h := (xA_t h).2
      refine xEvG_n xml xfetch 8 (y := (135, if (M (x0 + 10) (xw32 (4 * x6))) = x5 then 78 else 126, [some (13, x0), some (0, x1), some (0, x2), some (0, x3), some (0, x4), some (0, x5), some (0, x6)], [], M)) rfl ⟨a0_, trivial⟩ ?_
      refine xEvG_br xml xfetch (fun c_ => ?_) (fun c_ => ?_)
      · have h := xif_t c_ h
        have a0_ := (xA_t h).1
        have h := (xA_t h).2
        refine xEvG_n xml xfetch 12 (y := (135, if (M (x0 + 10) (xw32 ((xw32 (4 * x6)) + 1))) = (xw32 (1 - x2)) then 95 else 126, [some (13, x0), some (0, x1), some (0, x2), some (0, x3), some (0, x4), some (0, x5), some (0, x6)], [], M)) rfl ⟨a0_, trivial⟩ ?_
        refine xEvG_br xml xfetch (fun c_ => ?_) (fun c_ => ?_)
        · have h := xif_t c_ h
          have a0_ := (xA_t h).1
          have h := (xA_t h).2
          refine xEvG_n xml xfetch 10 (y := (135, if x3 < (M (x0 + 10) (xw32 ((xw32 (4 * x6)) + 3))) then 126 else 110, [some (13, x0), some (0, x1), some (0, x2), some (0, x3), some (0, x4), some (0, x5), some (0, x6)], [], M)) rfl ⟨a0_, trivial⟩ ?_
          refine xEvG_br xml xfetch (fun c_ => ?_) (fun c_ => ?_)
          · have h := xif_t c_ h
            refine xEvG_n xml xfetch 2 (y := (135, 52, [some (13, x0), some (0, x1), some (0, x2), some (0, x3), some (0, x4), some (0, x5), some (0, (xw32 (x6 + 1)))], [], M)) rfl trivial ?_
            refine xEvG_mask xml xfetch [true, true, true, true, true, true, true] ?_
            exact (hQ_likesOf_L52 g) x0 x1 x2 x3 x4 x5 (xw32 (x6 + 1)) M _ h
          · have h := xif_f c_ h
            have a0_ := (xA_t h).1
            have h := (xA_t h).2
            refine xEvG_n xml xfetch 13 (y := (135, 52, [some (13, x0), some (0, x1), some (0, x2), some (0, x3), some (0, (xw32 (x4 + (M (x0 + 10) (xw32 ((xw32 (4 * x6)) + 2)))))), some (0, x5), some (0, (xw32 (x6 + 1)))], [], M)) rfl ⟨a0_, trivial⟩ ?_
            refine xEvG_mask xml xfetch [true, true, true, true, true, true, true] ?_
            exact (hQ_likesOf_L52 g) x0 x1 x2 x3 (xw32 (x4 + (M (x0 + 10) (xw32 ((xw32 (4 * x6)) + 2))))) x5 (xw32 (x6 + 1)) M _ h
        · have h := xif_f c_ h
          refine xEvG_n xml xfetch 2 (y := (135, 52, [some (13, x0), some (0, x1), some (0, x2), some (0, x3), some (0, x4), some (0, x5), some (0, (xw32 (x6 + 1)))], [], M)) rfl trivial ?_
          refine xEvG_mask xml xfetch [true, true, true, true, true, true, true] ?_
          exact (hQ_likesOf_L52 g) x0 x1 x2 x3 x4 x5 (xw32 (x6 + 1)) M _ h
      · have h := xif_f c_ h
        refine xEvG_n xml xfetch 2 (y := (135, 52, [some (13, x0), some (0, x1), some (0, x2), some (0, x3), some (0, x4), some (0, x5), some (0, (xw32 (x6 + 1)))], [], M)) rfl trivial ?_
        refine xEvG_mask xml xfetch [true, true, true, true, true, true, true] ?_
        exact (hQ_likesOf_L52 g) x0 x1 x2 x3 x4 x5 (xw32 (x6 + 1)) M _ h
    · have h := xif_f c_ h
      refine xEvG_n xml xfetch 3 (y := (135, 137, [some (13, x0), some (0, x1), some (0, x2), some (0, x3), some (0, x4), some (0, x5), some (0, x6)], [(0, x1), (0, (M x0 30))], M)) rfl trivial ?_
      have key_ : xEv (135, 165, [some (13, x0), some (0, x1), some (0, x2), some (0, x3), some (0, (if (M x0 30) = x1 then (if (M x0 31) = x2 then (if x3 < (M x0 33) then x4 else (xw32 (x4 + (M x0 32))) : Int) else x4 : Int) else x4 : Int)), some (0, x5), some (0, x6)], [], M) (some (0, r), M) := by
        refine xEvG_n xml xfetch 1 (y := (135, 167, [some (13, x0), some (0, x1), some (0, x2), some (0, x3), some (0, (if (M x0 30) = x1 then (if (M x0 31) = x2 then (if x3 < (M x0 33) then x4 else (xw32 (x4 + (M x0 32))) : Int) else x4 : Int) else x4 : Int)), some (0, x5), some (0, x6)], [(0, (if (M x0 30) = x1 then (if (M x0 31) = x2 then (if x3 < (M x0 33) then x4 else (xw32 (x4 + (M x0 32))) : Int) else x4 : Int) else x4 : Int))], M)) rfl trivial ?_
        cases h
        exact xEvG_ret xml xfetch rfl
      refine xEvG_n xml xfetch 1 (y := (135, if (M x0 30) = x1 then 140 else 165, [some (13, x0), some (0, x1), some (0, x2), some (0, x3), some (0, x4), some (0, x5), some (0, x6)], [], M)) rfl trivial ?_
      refine xEvG_br xml xfetch (fun c6_ => ?_) (fun c6_ => ?_)
      · refine xEvG_n xml xfetch 4 (y := (135, if (M x0 31) = x2 then 148 else 165, [some (13, x0), some (0, x1), some (0, x2), some (0, x3), some (0, x4), some (0, x5), some (0, x6)], [], M)) rfl trivial ?_
        refine xEvG_br xml xfetch (fun c8_ => ?_) (fun c8_ => ?_)
        · refine xEvG_n xml xfetch 4 (y := (135, if x3 < (M x0 33) then 165 else 156, [some (13, x0), some (0, x1), some (0, x2), some (0, x3), some (0, x4), some (0, x5), some (0, x6)], [], M)) rfl trivial ?_
          refine xEvG_br xml xfetch (fun c10_ => ?_) (fun c10_ => ?_)
          · try simp only [if_pos c6_, if_pos c8_, if_pos c10_] at key_
            try simp only [if_pos c6_, if_pos c8_, if_pos c10_]
            exact key_
          · refine xEvG_n xml xfetch 5 (y := (135, 165, [some (13, x0), some (0, x1), some (0, x2), some (0, x3), some (0, (xw32 (x4 + (M x0 32)))), some (0, x5), some (0, x6)], [], M)) rfl trivial ?_
            try simp only [if_pos c6_, if_pos c8_, if_neg c10_] at key_
            try simp only [if_pos c6_, if_pos c8_, if_neg c10_]
            exact key_
        · try simp only [if_pos c6_, if_neg c8_] at key_
          try simp only [if_pos c6_, if_neg c8_]
          exact key_
      · try simp only [if_neg c6_] at key_
        try simp only [if_neg c6_]
        exact key_
/-- ConsentDoorsModel.likesOf(III)I -/
def fQ_likesOf (a0 a1 a2 a3 : Int) (M : xM) : Option Int := xB (fQ_besideIn a0 0 a1 a2 M) (fun v1 => if v1 = (-1) then (some 0) else (if (M a0 24) = 0 then (xA (0 ≤ (xw32 ((xw32 ((xw32 (6 * a1)) + 3)) + a2)) ∧ (xw32 ((xw32 ((xw32 (6 * a1)) + 3)) + a2)) < 270) (xB (fQ_besideIn a0 0 a1 a2 M) (fun v2 => fQ_likesOf_L52 20001 a0 a1 a2 a3 (M (a0 + 8) (xw32 ((xw32 ((xw32 (6 * a1)) + 3)) + a2))) v2 0 M))) else (xB (fQ_besideIn a0 0 a1 a2 M) (fun v3 => fQ_likesOf_L52 20001 a0 a1 a2 a3 9 v3 0 M))))
theorem hQ_likesOf (a0 a1 a2 a3 : Int) (M : xM) (r : Int) (h : fQ_likesOf a0 a1 a2 a3 M = some r) : xEv (135, 0, [some (13, a0), some (0, a1), some (0, a2), some (0, a3), none, none, none], [], M) (some (0, r), M) := by
  unfold fQ_likesOf at h
  refine xEvG_n xml xfetch 4 (y := (135, 4, [some (13, a0), some (0, a1), some (0, a2), some (0, a3), none, none, none], [(0, a2), (0, a1), (0, 0), (13, a0)], M)) rfl trivial ?_
  obtain ⟨v1, e_, h⟩ := xB_t h
  refine xEvG_call xml xfetch (q := (some (0, v1), M)) rfl (hQ_besideIn a0 0 a1 a2 M _ e_) ?_
  show xEv (135, 7, [some (13, a0), some (0, a1), some (0, a2), some (0, a3), none, none, none], [(0, v1)], M) _
  refine xEvG_n xml xfetch 2 (y := (135, if v1 = (-1) then 11 else 13, [some (13, a0), some (0, a1), some (0, a2), some (0, a3), none, none, none], [], M)) rfl trivial ?_
  refine xEvG_br xml xfetch (fun c_ => ?_) (fun c_ => ?_)
  · have h := xif_t c_ h
    refine xEvG_n xml xfetch 1 (y := (135, 12, [some (13, a0), some (0, a1), some (0, a2), some (0, a3), none, none, none], [(0, 0)], M)) rfl trivial ?_
    cases h
    exact xEvG_ret xml xfetch rfl
  · have h := xif_f c_ h
    refine xEvG_n xml xfetch 3 (y := (135, if (M a0 24) = 0 then 25 else 20, [some (13, a0), some (0, a1), some (0, a2), some (0, a3), none, none, none], [], M)) rfl trivial ?_
    refine xEvG_br xml xfetch (fun c_ => ?_) (fun c_ => ?_)
    · have h := xif_t c_ h
      have a0_ := (xA_t h).1
      have h := (xA_t h).2
      refine xEvG_n xml xfetch 15 (y := (135, 44, [some (13, a0), some (0, a1), some (0, a2), some (0, a3), some (0, (M (a0 + 8) (xw32 ((xw32 ((xw32 (6 * a1)) + 3)) + a2)))), none, none], [(0, a2), (0, a1), (0, 0), (13, a0)], M)) rfl ⟨a0_, trivial⟩ ?_
      obtain ⟨v2, e_, h⟩ := xB_t h
      refine xEvG_call xml xfetch (q := (some (0, v2), M)) rfl (hQ_besideIn a0 0 a1 a2 M _ e_) ?_
      show xEv (135, 47, [some (13, a0), some (0, a1), some (0, a2), some (0, a3), some (0, (M (a0 + 8) (xw32 ((xw32 ((xw32 (6 * a1)) + 3)) + a2)))), none, none], [(0, v2)], M) _
      refine xEvG_n xml xfetch 3 (y := (135, 52, [some (13, a0), some (0, a1), some (0, a2), some (0, a3), some (0, (M (a0 + 8) (xw32 ((xw32 ((xw32 (6 * a1)) + 3)) + a2)))), some (0, v2), some (0, 0)], [], M)) rfl trivial ?_
      refine xEvG_mask xml xfetch [true, true, true, true, true, true, true] ?_
      exact hQ_likesOf_L52 20001 a0 a1 a2 a3 (M (a0 + 8) (xw32 ((xw32 ((xw32 (6 * a1)) + 3)) + a2))) v2 0 M _ h
    · have h := xif_f c_ h
      refine xEvG_n xml xfetch 7 (y := (135, 44, [some (13, a0), some (0, a1), some (0, a2), some (0, a3), some (0, 9), none, none], [(0, a2), (0, a1), (0, 0), (13, a0)], M)) rfl trivial ?_
      obtain ⟨v3, e_, h⟩ := xB_t h
      refine xEvG_call xml xfetch (q := (some (0, v3), M)) rfl (hQ_besideIn a0 0 a1 a2 M _ e_) ?_
      show xEv (135, 47, [some (13, a0), some (0, a1), some (0, a2), some (0, a3), some (0, 9), none, none], [(0, v3)], M) _
      refine xEvG_n xml xfetch 3 (y := (135, 52, [some (13, a0), some (0, a1), some (0, a2), some (0, a3), some (0, 9), some (0, v3), some (0, 0)], [], M)) rfl trivial ?_
      refine xEvG_mask xml xfetch [true, true, true, true, true, true, true] ?_
      exact hQ_likesOf_L52 20001 a0 a1 a2 a3 9 v3 0 M _ h

/-- ConsentDoorsModel.likes(III)I -/
def fQ_likes (a0 a1 a2 a3 : Int) (M : xM) : Option (Int × xM) := if (fQ_isCell a0 a1 (fQ_plainly a0 (xwr M a0 0 0))) = 0 then (some ((-2), (fQ_plainly a0 (xwr M a0 0 0)))) else (if (fQ_isSide a2 (fQ_plainly a0 (xwr M a0 0 0))) = 0 then (some ((-2), (fQ_plainly a0 (xwr M a0 0 0)))) else (if (fQ_isHour a0 a3 (fQ_plainly a0 (xwr M a0 0 0))) = 0 then (some ((-2), (fQ_plainly a0 (xwr M a0 0 0)))) else (xB (fQ_likesOf a0 a1 a2 a3 (fQ_plainly a0 (xwr M a0 0 0))) (fun v5 => some (v5, (fQ_plainly a0 (xwr M a0 0 0)))))))
theorem hQ_likes (a0 a1 a2 a3 : Int) (M : xM) (r : Int × xM) (h : fQ_likes a0 a1 a2 a3 M = some r) : xEv (140, 0, [some (13, a0), some (0, a1), some (0, a2), some (0, a3)], [], M) (some (0, r.1), r.2) := by
  unfold fQ_likes at h
  refine xEvG_n xml xfetch 4 (y := (140, 6, [some (13, a0), some (0, a1), some (0, a2), some (0, a3)], [(13, a0)], (xwr M a0 0 0))) rfl trivial ?_
  refine xEvG_call xml xfetch (q := (none, fQ_plainly a0 (xwr M a0 0 0))) rfl (hQ_plainly a0 (xwr M a0 0 0) _ rfl) ?_
  show xEv (140, 9, [some (13, a0), some (0, a1), some (0, a2), some (0, a3)], [], (fQ_plainly a0 (xwr M a0 0 0))) _
  refine xEvG_n xml xfetch 3 (y := (140, 12, [some (13, a0), some (0, a1), some (0, a2), some (0, a3)], [(1, a1), (13, a0)], (fQ_plainly a0 (xwr M a0 0 0)))) rfl trivial ?_
  refine xEvG_call xml xfetch (q := (some (0, fQ_isCell a0 a1 (fQ_plainly a0 (xwr M a0 0 0))), (fQ_plainly a0 (xwr M a0 0 0)))) rfl (hQ_isCell a0 a1 (fQ_plainly a0 (xwr M a0 0 0)) _ rfl) ?_
  show xEv (140, 15, [some (13, a0), some (0, a1), some (0, a2), some (0, a3)], [(0, (fQ_isCell a0 a1 (fQ_plainly a0 (xwr M a0 0 0))))], (fQ_plainly a0 (xwr M a0 0 0))) _
  refine xEvG_n xml xfetch 1 (y := (140, if (fQ_isCell a0 a1 (fQ_plainly a0 (xwr M a0 0 0))) = 0 then 45 else 18, [some (13, a0), some (0, a1), some (0, a2), some (0, a3)], [], (fQ_plainly a0 (xwr M a0 0 0)))) rfl trivial ?_
  refine xEvG_br xml xfetch (fun c_ => ?_) (fun c_ => ?_)
  · have h := xif_t c_ h
    refine xEvG_n xml xfetch 1 (y := (140, 47, [some (13, a0), some (0, a1), some (0, a2), some (0, a3)], [(0, (-2))], (fQ_plainly a0 (xwr M a0 0 0)))) rfl trivial ?_
    cases h
    exact xEvG_ret xml xfetch rfl
  · have h := xif_f c_ h
    refine xEvG_n xml xfetch 2 (y := (140, 20, [some (13, a0), some (0, a1), some (0, a2), some (0, a3)], [(1, a2)], (fQ_plainly a0 (xwr M a0 0 0)))) rfl trivial ?_
    refine xEvG_call xml xfetch (q := (some (0, fQ_isSide a2 (fQ_plainly a0 (xwr M a0 0 0))), (fQ_plainly a0 (xwr M a0 0 0)))) rfl (hQ_isSide a2 (fQ_plainly a0 (xwr M a0 0 0)) _ rfl) ?_
    show xEv (140, 23, [some (13, a0), some (0, a1), some (0, a2), some (0, a3)], [(0, (fQ_isSide a2 (fQ_plainly a0 (xwr M a0 0 0))))], (fQ_plainly a0 (xwr M a0 0 0))) _
    refine xEvG_n xml xfetch 1 (y := (140, if (fQ_isSide a2 (fQ_plainly a0 (xwr M a0 0 0))) = 0 then 45 else 26, [some (13, a0), some (0, a1), some (0, a2), some (0, a3)], [], (fQ_plainly a0 (xwr M a0 0 0)))) rfl trivial ?_
    refine xEvG_br xml xfetch (fun c_ => ?_) (fun c_ => ?_)
    · have h := xif_t c_ h
      refine xEvG_n xml xfetch 1 (y := (140, 47, [some (13, a0), some (0, a1), some (0, a2), some (0, a3)], [(0, (-2))], (fQ_plainly a0 (xwr M a0 0 0)))) rfl trivial ?_
      cases h
      exact xEvG_ret xml xfetch rfl
    · have h := xif_f c_ h
      refine xEvG_n xml xfetch 3 (y := (140, 29, [some (13, a0), some (0, a1), some (0, a2), some (0, a3)], [(1, a3), (13, a0)], (fQ_plainly a0 (xwr M a0 0 0)))) rfl trivial ?_
      refine xEvG_call xml xfetch (q := (some (0, fQ_isHour a0 a3 (fQ_plainly a0 (xwr M a0 0 0))), (fQ_plainly a0 (xwr M a0 0 0)))) rfl (hQ_isHour a0 a3 (fQ_plainly a0 (xwr M a0 0 0)) _ rfl) ?_
      show xEv (140, 32, [some (13, a0), some (0, a1), some (0, a2), some (0, a3)], [(0, (fQ_isHour a0 a3 (fQ_plainly a0 (xwr M a0 0 0))))], (fQ_plainly a0 (xwr M a0 0 0))) _
      refine xEvG_n xml xfetch 1 (y := (140, if (fQ_isHour a0 a3 (fQ_plainly a0 (xwr M a0 0 0))) = 0 then 45 else 35, [some (13, a0), some (0, a1), some (0, a2), some (0, a3)], [], (fQ_plainly a0 (xwr M a0 0 0)))) rfl trivial ?_
      refine xEvG_br xml xfetch (fun c_ => ?_) (fun c_ => ?_)
      · have h := xif_t c_ h
        refine xEvG_n xml xfetch 1 (y := (140, 47, [some (13, a0), some (0, a1), some (0, a2), some (0, a3)], [(0, (-2))], (fQ_plainly a0 (xwr M a0 0 0)))) rfl trivial ?_
        cases h
        exact xEvG_ret xml xfetch rfl
      · have h := xif_f c_ h
        refine xEvG_n xml xfetch 4 (y := (140, 39, [some (13, a0), some (0, a1), some (0, a2), some (0, a3)], [(0, a3), (0, a2), (0, a1), (13, a0)], (fQ_plainly a0 (xwr M a0 0 0)))) rfl trivial ?_
        obtain ⟨v5, e_, h⟩ := xB_t h
        refine xEvG_call xml xfetch (q := (some (0, v5), (fQ_plainly a0 (xwr M a0 0 0)))) rfl (hQ_likesOf a0 a1 a2 a3 (fQ_plainly a0 (xwr M a0 0 0)) _ e_) ?_
        show xEv (140, 42, [some (13, a0), some (0, a1), some (0, a2), some (0, a3)], [(0, v5)], (fQ_plainly a0 (xwr M a0 0 0))) _
        refine xEvG_n xml xfetch 1 (y := (140, 47, [some (13, a0), some (0, a1), some (0, a2), some (0, a3)], [(0, v5)], (fQ_plainly a0 (xwr M a0 0 0)))) rfl trivial ?_
        cases h
        exact xEvG_ret xml xfetch rfl

def fQ_sleepsTold_L2 : Nat → Int → Int → Int → Int → xM → Option Int
  | 0, _, _, _, _, _ => none
  | g + 1, x0, x1, x2, x3, M => if x3 < (M (x0 + 7) 5) then (xA (0 ≤ (xw32 (3 * x3)) ∧ (xw32 (3 * x3)) < 120) (if (M (x0 + 9) (xw32 (3 * x3))) = x1 then (xA (0 ≤ (xw32 ((xw32 (3 * x3)) + 1)) ∧ (xw32 ((xw32 (3 * x3)) + 1)) < 120) (if x2 < (M (x0 + 9) (xw32 ((xw32 (3 * x3)) + 1))) then ((fQ_sleepsTold_L2 g) x0 x1 x2 (xw32 (x3 + 1)) M) else (xA (0 ≤ (xw32 ((xw32 (3 * x3)) + 2)) ∧ (xw32 ((xw32 (3 * x3)) + 2)) < 120) (if (M (x0 + 9) (xw32 ((xw32 (3 * x3)) + 2))) < x2 then ((fQ_sleepsTold_L2 g) x0 x1 x2 (xw32 (x3 + 1)) M) else (some 1))))) else ((fQ_sleepsTold_L2 g) x0 x1 x2 (xw32 (x3 + 1)) M))) else (some 0)
theorem hQ_sleepsTold_L2 : ∀ (g : Nat) (x0 x1 x2 x3 : Int) (M : xM) (r : Int) (h : fQ_sleepsTold_L2 g x0 x1 x2 x3 M = some r), xEv (131, 2, [some (13, x0), some (0, x1), some (0, x2), some (0, x3)], [], M) (some (0, r), M)
  | 0, _, _, _, _, _, _, h => by cases h
  | g + 1, x0, x1, x2, x3, M, r, h => by
    unfold fQ_sleepsTold_L2 at h
    refine xEvG_n xml xfetch 6 (y := (131, if x3 < (M (x0 + 7) 5) then 12 else 60, [some (13, x0), some (0, x1), some (0, x2), some (0, x3)], [], M)) rfl ⟨by decide, trivial⟩ ?_
    refine xEvG_br xml xfetch (fun c_ => ?_) (fun c_ => ?_)
    · have h := xif_t c_ h
      have a0_ := (xA_t h).1
      have h := (xA_t h).2
      refine xEvG_n xml xfetch 8 (y := (131, if (M (x0 + 9) (xw32 (3 * x3))) = x1 then 24 else 54, [some (13, x0), some (0, x1), some (0, x2), some (0, x3)], [], M)) rfl ⟨a0_, trivial⟩ ?_
      refine xEvG_br xml xfetch (fun c_ => ?_) (fun c_ => ?_)
      · have h := xif_t c_ h
        have a0_ := (xA_t h).1
        have h := (xA_t h).2
        refine xEvG_n xml xfetch 10 (y := (131, if x2 < (M (x0 + 9) (xw32 ((xw32 (3 * x3)) + 1))) then 54 else 38, [some (13, x0), some (0, x1), some (0, x2), some (0, x3)], [], M)) rfl ⟨a0_, trivial⟩ ?_
        refine xEvG_br xml xfetch (fun c_ => ?_) (fun c_ => ?_)
        · have h := xif_t c_ h
          refine xEvG_n xml xfetch 2 (y := (131, 2, [some (13, x0), some (0, x1), some (0, x2), some (0, (xw32 (x3 + 1)))], [], M)) rfl trivial ?_
          refine xEvG_mask xml xfetch [true, true, true, true] ?_
          exact (hQ_sleepsTold_L2 g) x0 x1 x2 (xw32 (x3 + 1)) M _ h
        · have h := xif_f c_ h
          have a0_ := (xA_t h).1
          have h := (xA_t h).2
          refine xEvG_n xml xfetch 10 (y := (131, if (M (x0 + 9) (xw32 ((xw32 (3 * x3)) + 2))) < x2 then 54 else 52, [some (13, x0), some (0, x1), some (0, x2), some (0, x3)], [], M)) rfl ⟨a0_, trivial⟩ ?_
          refine xEvG_br xml xfetch (fun c_ => ?_) (fun c_ => ?_)
          · have h := xif_t c_ h
            refine xEvG_n xml xfetch 2 (y := (131, 2, [some (13, x0), some (0, x1), some (0, x2), some (0, (xw32 (x3 + 1)))], [], M)) rfl trivial ?_
            refine xEvG_mask xml xfetch [true, true, true, true] ?_
            exact (hQ_sleepsTold_L2 g) x0 x1 x2 (xw32 (x3 + 1)) M _ h
          · have h := xif_f c_ h
            refine xEvG_n xml xfetch 1 (y := (131, 53, [some (13, x0), some (0, x1), some (0, x2), some (0, x3)], [(0, 1)], M)) rfl trivial ?_
            cases h
            exact xEvG_retc xml xfetch rfl (Or.inr rfl)
      · have h := xif_f c_ h
        refine xEvG_n xml xfetch 2 (y := (131, 2, [some (13, x0), some (0, x1), some (0, x2), some (0, (xw32 (x3 + 1)))], [], M)) rfl trivial ?_
        refine xEvG_mask xml xfetch [true, true, true, true] ?_
        exact (hQ_sleepsTold_L2 g) x0 x1 x2 (xw32 (x3 + 1)) M _ h
    · have h := xif_f c_ h
      refine xEvG_n xml xfetch 1 (y := (131, 61, [some (13, x0), some (0, x1), some (0, x2), some (0, x3)], [(0, 0)], M)) rfl trivial ?_
      cases h
      exact xEvG_retc xml xfetch rfl (Or.inl rfl)
/-- ConsentDoorsModel.sleepsTold(II)Z -/
def fQ_sleepsTold (a0 a1 a2 : Int) (M : xM) : Option Int := fQ_sleepsTold_L2 20001 a0 a1 a2 0 M
theorem hQ_sleepsTold (a0 a1 a2 : Int) (M : xM) (r : Int) (h : fQ_sleepsTold a0 a1 a2 M = some r) : xEv (131, 0, [some (13, a0), some (0, a1), some (0, a2), none], [], M) (some (0, r), M) := by
  unfold fQ_sleepsTold at h
  refine xEvG_n xml xfetch 2 (y := (131, 2, [some (13, a0), some (0, a1), some (0, a2), some (0, 0)], [], M)) rfl trivial ?_
  refine xEvG_mask xml xfetch [true, true, true, true] ?_
  exact hQ_sleepsTold_L2 20001 a0 a1 a2 0 M _ h

/-- ConsentDoorsModel.isBit(II)Z -/
def fQ_isBit (a0 a1 : Int) (M : xM) : Int := (if (xand (xshr a0 a1) 1) = 1 then 1 else 0 : Int)
theorem hQ_isBit (a0 a1 : Int) (M : xM) (r : Int) (h : fQ_isBit a0 a1 M = r) : xEv (126, 0, [some (0, a0), some (0, a1)], [], M) (some (0, r), M) := by
  unfold fQ_isBit at h
  refine xEvG_n xml xfetch 6 (y := (126, 6, [some (0, a0), some (0, a1)], [(0, 1), (0, (xand (xshr a0 a1) 1))], M)) rfl trivial ?_
  have key_ : xEv (126, 14, [some (0, a0), some (0, a1)], [(0, (if (xand (xshr a0 a1) 1) = 1 then 1 else 0 : Int))], M) (some (0, r), M) := by
    subst h
    exact xEvG_retc xml xfetch rfl (by (repeat' split) <;> first | exact Or.inl rfl | exact Or.inr rfl)
  refine xEvG_n xml xfetch 1 (y := (126, if (xand (xshr a0 a1) 1) = 1 then 9 else 13, [some (0, a0), some (0, a1)], [], M)) rfl trivial ?_
  refine xEvG_br xml xfetch (fun c2_ => ?_) (fun c2_ => ?_)
  · refine xEvG_n xml xfetch 2 (y := (126, 14, [some (0, a0), some (0, a1)], [(0, 1)], M)) rfl trivial ?_
    try simp only [if_pos c2_] at key_
    try simp only [if_pos c2_]
    exact key_
  · refine xEvG_n xml xfetch 1 (y := (126, 14, [some (0, a0), some (0, a1)], [(0, 0)], M)) rfl trivial ?_
    try simp only [if_neg c2_] at key_
    try simp only [if_neg c2_]
    exact key_
theorem bQ_isBit (a0 a1 : Int) (M : xM) : fQ_isBit a0 a1 M = 0 ∨ fQ_isBit a0 a1 M = 1 := by
  unfold fQ_isBit
  (repeat' split) <;> first | exact Or.inl rfl | exact Or.inr rfl | exact bD_isDrawing _ _ _ | exact bD_isPoints _ _ | exact bD_isSide _ _ | exact bD_isSlot _ _ | exact bPrison_hasCell _ _ _ | exact bPrison_hasHour _ _ _ | exact bPrison_stands _ _ | exact bQ_in _ _ _ _ | exact bQ_is _ _ _ | exact bQ_isCell _ _ _ | exact bQ_isGood _ _ | exact bQ_isHour _ _ _ | exact bQ_isSide _ _ | exact bQ_isSlot _ _ | exact bSlot_holds _ _ _ _ | exact bSlot_isBelow _ _ _

/-- ConsentDoorsModel.isAsleep(II)Z -/
def fQ_isAsleep (a0 a1 a2 : Int) (M : xM) : Option Int := if (M a0 23) = 0 then (xB (fQ_sleepsTold a0 a1 a2 M) (fun v1 => if v1 = 0 then (if (M a0 35) = 0 then (some 0) else (xA (0 ≤ a2 ∧ a2 < 24) (some (if (fQ_isBit (M (a0 + 13) a2) a1 M) = 0 then 0 else 1 : Int)))) else (some 1))) else (some 0)
theorem hQ_isAsleep (a0 a1 a2 : Int) (M : xM) (r : Int) (h : fQ_isAsleep a0 a1 a2 M = some r) : xEv (132, 0, [some (13, a0), some (0, a1), some (0, a2)], [], M) (some (0, r), M) := by
  unfold fQ_isAsleep at h
  refine xEvG_n xml xfetch 3 (y := (132, if (M a0 23) = 0 then 7 else 40, [some (13, a0), some (0, a1), some (0, a2)], [], M)) rfl trivial ?_
  refine xEvG_br xml xfetch (fun c_ => ?_) (fun c_ => ?_)
  · have h := xif_t c_ h
    refine xEvG_n xml xfetch 3 (y := (132, 10, [some (13, a0), some (0, a1), some (0, a2)], [(0, a2), (0, a1), (13, a0)], M)) rfl trivial ?_
    obtain ⟨v1, e_, h⟩ := xB_t h
    refine xEvG_call xml xfetch (q := (some (0, v1), M)) rfl (hQ_sleepsTold a0 a1 a2 M _ e_) ?_
    show xEv (132, 13, [some (13, a0), some (0, a1), some (0, a2)], [(0, v1)], M) _
    refine xEvG_n xml xfetch 1 (y := (132, if v1 = 0 then 16 else 36, [some (13, a0), some (0, a1), some (0, a2)], [], M)) rfl trivial ?_
    refine xEvG_br xml xfetch (fun c_ => ?_) (fun c_ => ?_)
    · have h := xif_t c_ h
      refine xEvG_n xml xfetch 3 (y := (132, if (M a0 35) = 0 then 40 else 23, [some (13, a0), some (0, a1), some (0, a2)], [], M)) rfl trivial ?_
      refine xEvG_br xml xfetch (fun c_ => ?_) (fun c_ => ?_)
      · have h := xif_t c_ h
        refine xEvG_n xml xfetch 1 (y := (132, 41, [some (13, a0), some (0, a1), some (0, a2)], [(0, 0)], M)) rfl trivial ?_
        cases h
        exact xEvG_retc xml xfetch rfl (Or.inl rfl)
      · have h := xif_f c_ h
        have a0_ := (xA_t h).1
        have h := (xA_t h).2
        refine xEvG_n xml xfetch 5 (y := (132, 30, [some (13, a0), some (0, a1), some (0, a2)], [(0, a1), (0, (M (a0 + 13) a2))], M)) rfl ⟨a0_, trivial⟩ ?_
        refine xEvG_call xml xfetch (q := (some (0, fQ_isBit (M (a0 + 13) a2) a1 M), M)) rfl (hQ_isBit (M (a0 + 13) a2) a1 M _ rfl) ?_
        show xEv (132, 33, [some (13, a0), some (0, a1), some (0, a2)], [(0, (fQ_isBit (M (a0 + 13) a2) a1 M))], M) _
        have key_ : xEv (132, 41, [some (13, a0), some (0, a1), some (0, a2)], [(0, (if (fQ_isBit (M (a0 + 13) a2) a1 M) = 0 then 0 else 1 : Int))], M) (some (0, r), M) := by
          cases h
          exact xEvG_retc xml xfetch rfl (by (repeat' split) <;> first | exact Or.inl rfl | exact Or.inr rfl)
        refine xEvG_n xml xfetch 1 (y := (132, if (fQ_isBit (M (a0 + 13) a2) a1 M) = 0 then 40 else 36, [some (13, a0), some (0, a1), some (0, a2)], [], M)) rfl trivial ?_
        refine xEvG_br xml xfetch (fun c8_ => ?_) (fun c8_ => ?_)
        · refine xEvG_n xml xfetch 1 (y := (132, 41, [some (13, a0), some (0, a1), some (0, a2)], [(0, 0)], M)) rfl trivial ?_
          try simp only [if_pos c8_] at key_
          try simp only [if_pos c8_]
          exact key_
        · refine xEvG_n xml xfetch 2 (y := (132, 41, [some (13, a0), some (0, a1), some (0, a2)], [(0, 1)], M)) rfl trivial ?_
          try simp only [if_neg c8_] at key_
          try simp only [if_neg c8_]
          exact key_
    · have h := xif_f c_ h
      refine xEvG_n xml xfetch 2 (y := (132, 41, [some (13, a0), some (0, a1), some (0, a2)], [(0, 1)], M)) rfl trivial ?_
      cases h
      exact xEvG_retc xml xfetch rfl (Or.inr rfl)
  · have h := xif_f c_ h
    refine xEvG_n xml xfetch 1 (y := (132, 41, [some (13, a0), some (0, a1), some (0, a2)], [(0, 0)], M)) rfl trivial ?_
    cases h
    exact xEvG_retc xml xfetch rfl (Or.inl rfl)

/-- ConsentDoorsModel.kindOf(I)I -/
def fQ_kindOf (a0 a1 : Int) (M : xM) : Option Int := if (fQ_isBit (M a0 27) a1 M) = 0 then (if (M a0 25) = 0 then (xA (0 ≤ (xw32 (6 * a1)) ∧ (xw32 (6 * a1)) < 270) (some (M (a0 + 8) (xw32 (6 * a1))))) else (some 0)) else (some 3)
theorem hQ_kindOf (a0 a1 : Int) (M : xM) (r : Int) (h : fQ_kindOf a0 a1 M = some r) : xEv (136, 0, [some (13, a0), some (0, a1)], [], M) (some (0, r), M) := by
  unfold fQ_kindOf at h
  refine xEvG_n xml xfetch 3 (y := (136, 5, [some (13, a0), some (0, a1)], [(0, a1), (0, (M a0 27))], M)) rfl trivial ?_
  refine xEvG_call xml xfetch (q := (some (0, fQ_isBit (M a0 27) a1 M), M)) rfl (hQ_isBit (M a0 27) a1 M _ rfl) ?_
  show xEv (136, 8, [some (13, a0), some (0, a1)], [(0, (fQ_isBit (M a0 27) a1 M))], M) _
  refine xEvG_n xml xfetch 1 (y := (136, if (fQ_isBit (M a0 27) a1 M) = 0 then 15 else 11, [some (13, a0), some (0, a1)], [], M)) rfl trivial ?_
  refine xEvG_br xml xfetch (fun c_ => ?_) (fun c_ => ?_)
  · have h := xif_t c_ h
    refine xEvG_n xml xfetch 3 (y := (136, if (M a0 25) = 0 then 26 else 22, [some (13, a0), some (0, a1)], [], M)) rfl trivial ?_
    refine xEvG_br xml xfetch (fun c_ => ?_) (fun c_ => ?_)
    · have h := xif_t c_ h
      have a0_ := (xA_t h).1
      have h := (xA_t h).2
      refine xEvG_n xml xfetch 6 (y := (136, 35, [some (13, a0), some (0, a1)], [(0, (M (a0 + 8) (xw32 (6 * a1))))], M)) rfl ⟨a0_, trivial⟩ ?_
      cases h
      exact xEvG_ret xml xfetch rfl
    · have h := xif_f c_ h
      refine xEvG_n xml xfetch 2 (y := (136, 35, [some (13, a0), some (0, a1)], [(0, 0)], M)) rfl trivial ?_
      cases h
      exact xEvG_ret xml xfetch rfl
  · have h := xif_f c_ h
    refine xEvG_n xml xfetch 2 (y := (136, 35, [some (13, a0), some (0, a1)], [(0, 3)], M)) rfl trivial ?_
    cases h
    exact xEvG_ret xml xfetch rfl

def fQ_quarrels_L16 (x0 y0 : Int) (M : xM) : Option Int := some (fQ_isBit (xand (M (x0 + 7) 4) (xxor (M x0 26) (-1))) y0 M)
theorem hQ_quarrels_L16 (x0 y0 : Int) (M : xM) (r : Int) (h : fQ_quarrels_L16 x0 y0 M = some r) : xEv (134, 16, [some (13, x0), none, none, none], [(0, y0)], M) (some (0, r), M) := by
  unfold fQ_quarrels_L16 at h
  refine xEvG_n xml xfetch 11 (y := (134, 31, [some (13, x0), none, none, some (0, y0)], [(0, y0), (0, (xand (M (x0 + 7) 4) (xxor (M x0 26) (-1))))], M)) rfl ⟨by decide, trivial⟩ ?_
  refine xEvG_call xml xfetch (q := (some (0, fQ_isBit (xand (M (x0 + 7) 4) (xxor (M x0 26) (-1))) y0 M), M)) rfl (hQ_isBit (xand (M (x0 + 7) 4) (xxor (M x0 26) (-1))) y0 M _ rfl) ?_
  show xEv (134, 34, [some (13, x0), none, none, some (0, y0)], [(0, (fQ_isBit (xand (M (x0 + 7) 4) (xxor (M x0 26) (-1))) y0 M))], M) _
  cases h
  exact xEvG_retc xml xfetch rfl (bQ_isBit (xand (M (x0 + 7) 4) (xxor (M x0 26) (-1))) y0 M)
/-- ConsentDoorsModel.quarrels(II)Z -/
def fQ_quarrels (a0 a1 a2 : Int) (M : xM) : Option Int := if a2 = 1 then (fQ_quarrels_L16 a0 a1 M) else (xB (fQ_besideIn a0 0 a1 0 M) (fun v2 => some (fQ_isBit (xand (M (a0 + 7) 4) (xxor (M a0 26) (-1))) v2 M)))
theorem hQ_quarrels (a0 a1 a2 : Int) (M : xM) (r : Int) (h : fQ_quarrels a0 a1 a2 M = some r) : xEv (134, 0, [some (13, a0), some (0, a1), some (0, a2), none], [], M) (some (0, r), M) := by
  unfold fQ_quarrels at h
  refine xEvG_n xml xfetch 3 (y := (134, if a2 = 1 then 5 else 9, [some (13, a0), some (0, a1), some (0, a2), none], [], M)) rfl trivial ?_
  refine xEvG_br xml xfetch (fun c_ => ?_) (fun c_ => ?_)
  · have h := xif_t c_ h
    refine xEvG_n xml xfetch 2 (y := (134, 16, [some (13, a0), some (0, a1), some (0, a2), none], [(0, a1)], M)) rfl trivial ?_
    refine xEvG_mask xml xfetch [true, false, false, false] ?_
    exact hQ_quarrels_L16 a0 a1 M _ h
  · have h := xif_f c_ h
    refine xEvG_n xml xfetch 4 (y := (134, 13, [some (13, a0), some (0, a1), some (0, a2), none], [(0, 0), (0, a1), (0, 0), (13, a0)], M)) rfl trivial ?_
    obtain ⟨v2, e_, h⟩ := xB_t h
    refine xEvG_call xml xfetch (q := (some (0, v2), M)) rfl (hQ_besideIn a0 0 a1 0 M _ e_) ?_
    show xEv (134, 16, [some (13, a0), some (0, a1), some (0, a2), none], [(0, v2)], M) _
    refine xEvG_n xml xfetch 11 (y := (134, 31, [some (13, a0), some (0, a1), some (0, a2), some (0, v2)], [(0, v2), (0, (xand (M (a0 + 7) 4) (xxor (M a0 26) (-1))))], M)) rfl ⟨by decide, trivial⟩ ?_
    refine xEvG_call xml xfetch (q := (some (0, fQ_isBit (xand (M (a0 + 7) 4) (xxor (M a0 26) (-1))) v2 M), M)) rfl (hQ_isBit (xand (M (a0 + 7) 4) (xxor (M a0 26) (-1))) v2 M _ rfl) ?_
    show xEv (134, 34, [some (13, a0), some (0, a1), some (0, a2), some (0, v2)], [(0, (fQ_isBit (xand (M (a0 + 7) 4) (xxor (M a0 26) (-1))) v2 M))], M) _
    cases h
    exact xEvG_retc xml xfetch rfl (bQ_isBit (xand (M (a0 + 7) 4) (xxor (M a0 26) (-1))) v2 M)

/-- ConsentDoorsModel.isNotHis(III)Z -/
def fQ_isNotHis (a0 a1 a2 a3 : Int) (M : xM) : Option Int := xB (fQ_kindOf a0 a1 M) (fun v1 => if v1 = 1 then (some (if (xrem a3 2) = (if a2 = 0 then 1 else 0 : Int) then 1 else 0 : Int)) else (if v1 = 2 then (xA (0 ≤ (xw32 ((xw32 (6 * a1)) + 1)) ∧ (xw32 ((xw32 (6 * a1)) + 1)) < 270) (xA ((M (a0 + 8) (xw32 ((xw32 (6 * a1)) + 1))) ≠ 0) (some (if (xrem a3 (M (a0 + 8) (xw32 ((xw32 (6 * a1)) + 1)))) = 0 then 0 else 1 : Int)))) else (some 0)))
theorem hQ_isNotHis (a0 a1 a2 a3 : Int) (M : xM) (r : Int) (h : fQ_isNotHis a0 a1 a2 a3 M = some r) : xEv (137, 0, [some (13, a0), some (0, a1), some (0, a2), some (0, a3), none], [], M) (some (0, r), M) := by
  unfold fQ_isNotHis at h
  refine xEvG_n xml xfetch 2 (y := (137, 2, [some (13, a0), some (0, a1), some (0, a2), some (0, a3), none], [(0, a1), (13, a0)], M)) rfl trivial ?_
  obtain ⟨v1, e_, h⟩ := xB_t h
  refine xEvG_call xml xfetch (q := (some (0, v1), M)) rfl (hQ_kindOf a0 a1 M _ e_) ?_
  show xEv (137, 5, [some (13, a0), some (0, a1), some (0, a2), some (0, a3), none], [(0, v1)], M) _
  refine xEvG_n xml xfetch 4 (y := (137, if v1 = 1 then 13 else 34, [some (13, a0), some (0, a1), some (0, a2), some (0, a3), some (0, v1)], [], M)) rfl trivial ?_
  refine xEvG_br xml xfetch (fun c_ => ?_) (fun c_ => ?_)
  · have h := xif_t c_ h
    refine xEvG_n xml xfetch 4 (y := (137, 17, [some (13, a0), some (0, a1), some (0, a2), some (0, a3), some (0, v1)], [(0, a2), (0, (xrem a3 2))], M)) rfl ⟨by decide, trivial⟩ ?_
    have key_ : xEv (137, 25, [some (13, a0), some (0, a1), some (0, a2), some (0, a3), some (0, v1)], [(0, (if a2 = 0 then 1 else 0 : Int)), (0, (xrem a3 2))], M) (some (0, r), M) := by
      have key_ : xEv (137, 33, [some (13, a0), some (0, a1), some (0, a2), some (0, a3), some (0, v1)], [(0, (if (xrem a3 2) = (if a2 = 0 then 1 else 0 : Int) then 1 else 0 : Int))], M) (some (0, r), M) := by
        cases h
        exact xEvG_retc xml xfetch rfl (by (repeat' split) <;> first | exact Or.inl rfl | exact Or.inr rfl)
      refine xEvG_n xml xfetch 1 (y := (137, if (xrem a3 2) = (if a2 = 0 then 1 else 0 : Int) then 28 else 32, [some (13, a0), some (0, a1), some (0, a2), some (0, a3), some (0, v1)], [], M)) rfl trivial ?_
      refine xEvG_br xml xfetch (fun c6_ => ?_) (fun c6_ => ?_)
      · refine xEvG_n xml xfetch 2 (y := (137, 33, [some (13, a0), some (0, a1), some (0, a2), some (0, a3), some (0, v1)], [(0, 1)], M)) rfl trivial ?_
        try simp only [if_pos c6_] at key_
        try simp only [if_pos c6_]
        exact key_
      · refine xEvG_n xml xfetch 1 (y := (137, 33, [some (13, a0), some (0, a1), some (0, a2), some (0, a3), some (0, v1)], [(0, 0)], M)) rfl trivial ?_
        try simp only [if_neg c6_] at key_
        try simp only [if_neg c6_]
        exact key_
    refine xEvG_n xml xfetch 1 (y := (137, if a2 = 0 then 20 else 24, [some (13, a0), some (0, a1), some (0, a2), some (0, a3), some (0, v1)], [(0, (xrem a3 2))], M)) rfl trivial ?_
    refine xEvG_br xml xfetch (fun c4_ => ?_) (fun c4_ => ?_)
    · refine xEvG_n xml xfetch 2 (y := (137, 25, [some (13, a0), some (0, a1), some (0, a2), some (0, a3), some (0, v1)], [(0, 1), (0, (xrem a3 2))], M)) rfl trivial ?_
      try simp only [if_pos c4_] at key_
      try simp only [if_pos c4_]
      exact key_
    · refine xEvG_n xml xfetch 1 (y := (137, 25, [some (13, a0), some (0, a1), some (0, a2), some (0, a3), some (0, v1)], [(0, 0), (0, (xrem a3 2))], M)) rfl trivial ?_
      try simp only [if_neg c4_] at key_
      try simp only [if_neg c4_]
      exact key_
  · have h := xif_f c_ h
    refine xEvG_n xml xfetch 3 (y := (137, if v1 = 2 then 40 else 60, [some (13, a0), some (0, a1), some (0, a2), some (0, a3), some (0, v1)], [], M)) rfl trivial ?_
    refine xEvG_br xml xfetch (fun c_ => ?_) (fun c_ => ?_)
    · have h := xif_t c_ h
      have a0_ := (xA_t h).1
      have h := (xA_t h).2
      have a1_ := (xA_t h).1
      have h := (xA_t h).2
      refine xEvG_n xml xfetch 10 (y := (137, 53, [some (13, a0), some (0, a1), some (0, a2), some (0, a3), some (0, v1)], [(0, (xrem a3 (M (a0 + 8) (xw32 ((xw32 (6 * a1)) + 1)))))], M)) rfl ⟨a0_, a1_, trivial⟩ ?_
      have key_ : xEv (137, 61, [some (13, a0), some (0, a1), some (0, a2), some (0, a3), some (0, v1)], [(0, (if (xrem a3 (M (a0 + 8) (xw32 ((xw32 (6 * a1)) + 1)))) = 0 then 0 else 1 : Int))], M) (some (0, r), M) := by
        cases h
        exact xEvG_retc xml xfetch rfl (by (repeat' split) <;> first | exact Or.inl rfl | exact Or.inr rfl)
      refine xEvG_n xml xfetch 1 (y := (137, if (xrem a3 (M (a0 + 8) (xw32 ((xw32 (6 * a1)) + 1)))) = 0 then 60 else 56, [some (13, a0), some (0, a1), some (0, a2), some (0, a3), some (0, v1)], [], M)) rfl trivial ?_
      refine xEvG_br xml xfetch (fun c6_ => ?_) (fun c6_ => ?_)
      · refine xEvG_n xml xfetch 1 (y := (137, 61, [some (13, a0), some (0, a1), some (0, a2), some (0, a3), some (0, v1)], [(0, 0)], M)) rfl trivial ?_
        try simp only [if_pos c6_] at key_
        try simp only [if_pos c6_]
        exact key_
      · refine xEvG_n xml xfetch 2 (y := (137, 61, [some (13, a0), some (0, a1), some (0, a2), some (0, a3), some (0, v1)], [(0, 1)], M)) rfl trivial ?_
        try simp only [if_neg c6_] at key_
        try simp only [if_neg c6_]
        exact key_
    · have h := xif_f c_ h
      refine xEvG_n xml xfetch 1 (y := (137, 61, [some (13, a0), some (0, a1), some (0, a2), some (0, a3), some (0, v1)], [(0, 0)], M)) rfl trivial ?_
      cases h
      exact xEvG_retc xml xfetch rfl (Or.inl rfl)

/-- ConsentDoorsModel.gravely(III)I -/
def fQ_gravely (a0 a1 a2 a3 : Int) (M : xM) : Option Int := xB (fQ_besideIn a0 0 a1 a2 M) (fun v1 => if v1 = (-1) then (some 1) else (xB (fQ_isAsleep a0 a1 a3 M) (fun v2 => if v2 = 0 then (xB (fQ_kindOf a0 a1 M) (fun v3 => if v3 = 3 then (some 4) else (xB (fQ_quarrels a0 a1 a2 M) (fun v4 => if v4 = 0 then (xB (fQ_isNotHis a0 a1 a2 a3 M) (fun v5 => some (if v5 = 0 then 0 else 6 : Int))) else (some 5))))) else (some 3))))
theorem hQ_gravely (a0 a1 a2 a3 : Int) (M : xM) (r : Int) (h : fQ_gravely a0 a1 a2 a3 M = some r) : xEv (138, 0, [some (13, a0), some (0, a1), some (0, a2), some (0, a3)], [], M) (some (0, r), M) := by
  unfold fQ_gravely at h
  refine xEvG_n xml xfetch 4 (y := (138, 4, [some (13, a0), some (0, a1), some (0, a2), some (0, a3)], [(0, a2), (0, a1), (0, 0), (13, a0)], M)) rfl trivial ?_
  obtain ⟨v1, e_, h⟩ := xB_t h
  refine xEvG_call xml xfetch (q := (some (0, v1), M)) rfl (hQ_besideIn a0 0 a1 a2 M _ e_) ?_
  show xEv (138, 7, [some (13, a0), some (0, a1), some (0, a2), some (0, a3)], [(0, v1)], M) _
  refine xEvG_n xml xfetch 2 (y := (138, if v1 = (-1) then 11 else 13, [some (13, a0), some (0, a1), some (0, a2), some (0, a3)], [], M)) rfl trivial ?_
  refine xEvG_br xml xfetch (fun c_ => ?_) (fun c_ => ?_)
  · have h := xif_t c_ h
    refine xEvG_n xml xfetch 1 (y := (138, 12, [some (13, a0), some (0, a1), some (0, a2), some (0, a3)], [(0, 1)], M)) rfl trivial ?_
    cases h
    exact xEvG_ret xml xfetch rfl
  · have h := xif_f c_ h
    refine xEvG_n xml xfetch 3 (y := (138, 16, [some (13, a0), some (0, a1), some (0, a2), some (0, a3)], [(0, a3), (0, a1), (13, a0)], M)) rfl trivial ?_
    obtain ⟨v2, e_, h⟩ := xB_t h
    refine xEvG_call xml xfetch (q := (some (0, v2), M)) rfl (hQ_isAsleep a0 a1 a3 M _ e_) ?_
    show xEv (138, 19, [some (13, a0), some (0, a1), some (0, a2), some (0, a3)], [(0, v2)], M) _
    refine xEvG_n xml xfetch 1 (y := (138, if v2 = 0 then 24 else 22, [some (13, a0), some (0, a1), some (0, a2), some (0, a3)], [], M)) rfl trivial ?_
    refine xEvG_br xml xfetch (fun c_ => ?_) (fun c_ => ?_)
    · have h := xif_t c_ h
      refine xEvG_n xml xfetch 2 (y := (138, 26, [some (13, a0), some (0, a1), some (0, a2), some (0, a3)], [(0, a1), (13, a0)], M)) rfl trivial ?_
      obtain ⟨v3, e_, h⟩ := xB_t h
      refine xEvG_call xml xfetch (q := (some (0, v3), M)) rfl (hQ_kindOf a0 a1 M _ e_) ?_
      show xEv (138, 29, [some (13, a0), some (0, a1), some (0, a2), some (0, a3)], [(0, v3)], M) _
      refine xEvG_n xml xfetch 2 (y := (138, if v3 = 3 then 33 else 35, [some (13, a0), some (0, a1), some (0, a2), some (0, a3)], [], M)) rfl trivial ?_
      refine xEvG_br xml xfetch (fun c_ => ?_) (fun c_ => ?_)
      · have h := xif_t c_ h
        refine xEvG_n xml xfetch 1 (y := (138, 34, [some (13, a0), some (0, a1), some (0, a2), some (0, a3)], [(0, 4)], M)) rfl trivial ?_
        cases h
        exact xEvG_ret xml xfetch rfl
      · have h := xif_f c_ h
        refine xEvG_n xml xfetch 3 (y := (138, 38, [some (13, a0), some (0, a1), some (0, a2), some (0, a3)], [(0, a2), (0, a1), (13, a0)], M)) rfl trivial ?_
        obtain ⟨v4, e_, h⟩ := xB_t h
        refine xEvG_call xml xfetch (q := (some (0, v4), M)) rfl (hQ_quarrels a0 a1 a2 M _ e_) ?_
        show xEv (138, 41, [some (13, a0), some (0, a1), some (0, a2), some (0, a3)], [(0, v4)], M) _
        refine xEvG_n xml xfetch 1 (y := (138, if v4 = 0 then 46 else 44, [some (13, a0), some (0, a1), some (0, a2), some (0, a3)], [], M)) rfl trivial ?_
        refine xEvG_br xml xfetch (fun c_ => ?_) (fun c_ => ?_)
        · have h := xif_t c_ h
          refine xEvG_n xml xfetch 4 (y := (138, 50, [some (13, a0), some (0, a1), some (0, a2), some (0, a3)], [(0, a3), (0, a2), (0, a1), (13, a0)], M)) rfl trivial ?_
          obtain ⟨v5, e_, h⟩ := xB_t h
          refine xEvG_call xml xfetch (q := (some (0, v5), M)) rfl (hQ_isNotHis a0 a1 a2 a3 M _ e_) ?_
          show xEv (138, 53, [some (13, a0), some (0, a1), some (0, a2), some (0, a3)], [(0, v5)], M) _
          have key_ : xEv (138, 62, [some (13, a0), some (0, a1), some (0, a2), some (0, a3)], [(0, (if v5 = 0 then 0 else 6 : Int))], M) (some (0, r), M) := by
            cases h
            exact xEvG_ret xml xfetch rfl
          refine xEvG_n xml xfetch 1 (y := (138, if v5 = 0 then 61 else 56, [some (13, a0), some (0, a1), some (0, a2), some (0, a3)], [], M)) rfl trivial ?_
          refine xEvG_br xml xfetch (fun c10_ => ?_) (fun c10_ => ?_)
          · refine xEvG_n xml xfetch 1 (y := (138, 62, [some (13, a0), some (0, a1), some (0, a2), some (0, a3)], [(0, 0)], M)) rfl trivial ?_
            try simp only [if_pos c10_] at key_
            try simp only [if_pos c10_]
            exact key_
          · refine xEvG_n xml xfetch 2 (y := (138, 62, [some (13, a0), some (0, a1), some (0, a2), some (0, a3)], [(0, 6)], M)) rfl trivial ?_
            try simp only [if_neg c10_] at key_
            try simp only [if_neg c10_]
            exact key_
        · have h := xif_f c_ h
          refine xEvG_n xml xfetch 1 (y := (138, 45, [some (13, a0), some (0, a1), some (0, a2), some (0, a3)], [(0, 5)], M)) rfl trivial ?_
          cases h
          exact xEvG_ret xml xfetch rfl
    · have h := xif_f c_ h
      refine xEvG_n xml xfetch 1 (y := (138, 23, [some (13, a0), some (0, a1), some (0, a2), some (0, a3)], [(0, 3)], M)) rfl trivial ?_
      cases h
      exact xEvG_ret xml xfetch rfl

/-- ConsentDoorsModel.reasonOf(III)I -/
def fQ_reasonOf (a0 a1 a2 a3 : Int) (M : xM) : Option Int := xB (fQ_gravely a0 a1 a2 a3 M) (fun v1 => if v1 = 0 then (xB (fQ_likesOf a0 a1 a2 a3 M) (fun v2 => xA (0 ≤ (xw32 ((xw32 (6 * a1)) + 2)) ∧ (xw32 ((xw32 (6 * a1)) + 2)) < 270) (some (if v2 < (M (a0 + 8) (xw32 ((xw32 (6 * a1)) + 2))) then 7 else 0 : Int)))) else (some v1))
theorem hQ_reasonOf (a0 a1 a2 a3 : Int) (M : xM) (r : Int) (h : fQ_reasonOf a0 a1 a2 a3 M = some r) : xEv (139, 0, [some (13, a0), some (0, a1), some (0, a2), some (0, a3), none], [], M) (some (0, r), M) := by
  unfold fQ_reasonOf at h
  refine xEvG_n xml xfetch 4 (y := (139, 4, [some (13, a0), some (0, a1), some (0, a2), some (0, a3), none], [(0, a3), (0, a2), (0, a1), (13, a0)], M)) rfl trivial ?_
  obtain ⟨v1, e_, h⟩ := xB_t h
  refine xEvG_call xml xfetch (q := (some (0, v1), M)) rfl (hQ_gravely a0 a1 a2 a3 M _ e_) ?_
  show xEv (139, 7, [some (13, a0), some (0, a1), some (0, a2), some (0, a3), none], [(0, v1)], M) _
  refine xEvG_n xml xfetch 3 (y := (139, if v1 = 0 then 19 else 14, [some (13, a0), some (0, a1), some (0, a2), some (0, a3), some (0, v1)], [], M)) rfl trivial ?_
  refine xEvG_br xml xfetch (fun c_ => ?_) (fun c_ => ?_)
  · have h := xif_t c_ h
    refine xEvG_n xml xfetch 4 (y := (139, 23, [some (13, a0), some (0, a1), some (0, a2), some (0, a3), some (0, v1)], [(0, a3), (0, a2), (0, a1), (13, a0)], M)) rfl trivial ?_
    obtain ⟨v2, e_, h⟩ := xB_t h
    refine xEvG_call xml xfetch (q := (some (0, v2), M)) rfl (hQ_likesOf a0 a1 a2 a3 M _ e_) ?_
    show xEv (139, 26, [some (13, a0), some (0, a1), some (0, a2), some (0, a3), some (0, v1)], [(0, v2)], M) _
    have a0_ := (xA_t h).1
    have h := (xA_t h).2
    refine xEvG_n xml xfetch 8 (y := (139, 37, [some (13, a0), some (0, a1), some (0, a2), some (0, a3), some (0, v1)], [(0, (M (a0 + 8) (xw32 ((xw32 (6 * a1)) + 2)))), (0, v2)], M)) rfl ⟨a0_, trivial⟩ ?_
    have key_ : xEv (139, 46, [some (13, a0), some (0, a1), some (0, a2), some (0, a3), some (0, v1)], [(0, (if v2 < (M (a0 + 8) (xw32 ((xw32 (6 * a1)) + 2))) then 7 else 0 : Int))], M) (some (0, r), M) := by
      cases h
      exact xEvG_ret xml xfetch rfl
    refine xEvG_n xml xfetch 1 (y := (139, if v2 < (M (a0 + 8) (xw32 ((xw32 (6 * a1)) + 2))) then 40 else 45, [some (13, a0), some (0, a1), some (0, a2), some (0, a3), some (0, v1)], [], M)) rfl trivial ?_
    refine xEvG_br xml xfetch (fun c4_ => ?_) (fun c4_ => ?_)
    · refine xEvG_n xml xfetch 2 (y := (139, 46, [some (13, a0), some (0, a1), some (0, a2), some (0, a3), some (0, v1)], [(0, 7)], M)) rfl trivial ?_
      try simp only [if_pos c4_] at key_
      try simp only [if_pos c4_]
      exact key_
    · refine xEvG_n xml xfetch 1 (y := (139, 46, [some (13, a0), some (0, a1), some (0, a2), some (0, a3), some (0, v1)], [(0, 0)], M)) rfl trivial ?_
      try simp only [if_neg c4_] at key_
      try simp only [if_neg c4_]
      exact key_
  · have h := xif_f c_ h
    refine xEvG_n xml xfetch 2 (y := (139, 46, [some (13, a0), some (0, a1), some (0, a2), some (0, a3), some (0, v1)], [(0, v1)], M)) rfl trivial ?_
    cases h
    exact xEvG_ret xml xfetch rfl

/-- ConsentDoorsModel.reason(III)I -/
def fQ_reason (a0 a1 a2 a3 : Int) (M : xM) : Option (Int × xM) := if (fQ_isCell a0 a1 (fQ_plainly a0 (xwr M a0 0 0))) = 0 then (some ((-2), (fQ_plainly a0 (xwr M a0 0 0)))) else (if (fQ_isSide a2 (fQ_plainly a0 (xwr M a0 0 0))) = 0 then (some ((-2), (fQ_plainly a0 (xwr M a0 0 0)))) else (if (fQ_isHour a0 a3 (fQ_plainly a0 (xwr M a0 0 0))) = 0 then (some ((-2), (fQ_plainly a0 (xwr M a0 0 0)))) else (xB (fQ_reasonOf a0 a1 a2 a3 (fQ_plainly a0 (xwr M a0 0 0))) (fun v5 => some (v5, (fQ_plainly a0 (xwr M a0 0 0)))))))
theorem hQ_reason (a0 a1 a2 a3 : Int) (M : xM) (r : Int × xM) (h : fQ_reason a0 a1 a2 a3 M = some r) : xEv (141, 0, [some (13, a0), some (0, a1), some (0, a2), some (0, a3)], [], M) (some (0, r.1), r.2) := by
  unfold fQ_reason at h
  refine xEvG_n xml xfetch 4 (y := (141, 6, [some (13, a0), some (0, a1), some (0, a2), some (0, a3)], [(13, a0)], (xwr M a0 0 0))) rfl trivial ?_
  refine xEvG_call xml xfetch (q := (none, fQ_plainly a0 (xwr M a0 0 0))) rfl (hQ_plainly a0 (xwr M a0 0 0) _ rfl) ?_
  show xEv (141, 9, [some (13, a0), some (0, a1), some (0, a2), some (0, a3)], [], (fQ_plainly a0 (xwr M a0 0 0))) _
  refine xEvG_n xml xfetch 3 (y := (141, 12, [some (13, a0), some (0, a1), some (0, a2), some (0, a3)], [(1, a1), (13, a0)], (fQ_plainly a0 (xwr M a0 0 0)))) rfl trivial ?_
  refine xEvG_call xml xfetch (q := (some (0, fQ_isCell a0 a1 (fQ_plainly a0 (xwr M a0 0 0))), (fQ_plainly a0 (xwr M a0 0 0)))) rfl (hQ_isCell a0 a1 (fQ_plainly a0 (xwr M a0 0 0)) _ rfl) ?_
  show xEv (141, 15, [some (13, a0), some (0, a1), some (0, a2), some (0, a3)], [(0, (fQ_isCell a0 a1 (fQ_plainly a0 (xwr M a0 0 0))))], (fQ_plainly a0 (xwr M a0 0 0))) _
  refine xEvG_n xml xfetch 1 (y := (141, if (fQ_isCell a0 a1 (fQ_plainly a0 (xwr M a0 0 0))) = 0 then 45 else 18, [some (13, a0), some (0, a1), some (0, a2), some (0, a3)], [], (fQ_plainly a0 (xwr M a0 0 0)))) rfl trivial ?_
  refine xEvG_br xml xfetch (fun c_ => ?_) (fun c_ => ?_)
  · have h := xif_t c_ h
    refine xEvG_n xml xfetch 1 (y := (141, 47, [some (13, a0), some (0, a1), some (0, a2), some (0, a3)], [(0, (-2))], (fQ_plainly a0 (xwr M a0 0 0)))) rfl trivial ?_
    cases h
    exact xEvG_ret xml xfetch rfl
  · have h := xif_f c_ h
    refine xEvG_n xml xfetch 2 (y := (141, 20, [some (13, a0), some (0, a1), some (0, a2), some (0, a3)], [(1, a2)], (fQ_plainly a0 (xwr M a0 0 0)))) rfl trivial ?_
    refine xEvG_call xml xfetch (q := (some (0, fQ_isSide a2 (fQ_plainly a0 (xwr M a0 0 0))), (fQ_plainly a0 (xwr M a0 0 0)))) rfl (hQ_isSide a2 (fQ_plainly a0 (xwr M a0 0 0)) _ rfl) ?_
    show xEv (141, 23, [some (13, a0), some (0, a1), some (0, a2), some (0, a3)], [(0, (fQ_isSide a2 (fQ_plainly a0 (xwr M a0 0 0))))], (fQ_plainly a0 (xwr M a0 0 0))) _
    refine xEvG_n xml xfetch 1 (y := (141, if (fQ_isSide a2 (fQ_plainly a0 (xwr M a0 0 0))) = 0 then 45 else 26, [some (13, a0), some (0, a1), some (0, a2), some (0, a3)], [], (fQ_plainly a0 (xwr M a0 0 0)))) rfl trivial ?_
    refine xEvG_br xml xfetch (fun c_ => ?_) (fun c_ => ?_)
    · have h := xif_t c_ h
      refine xEvG_n xml xfetch 1 (y := (141, 47, [some (13, a0), some (0, a1), some (0, a2), some (0, a3)], [(0, (-2))], (fQ_plainly a0 (xwr M a0 0 0)))) rfl trivial ?_
      cases h
      exact xEvG_ret xml xfetch rfl
    · have h := xif_f c_ h
      refine xEvG_n xml xfetch 3 (y := (141, 29, [some (13, a0), some (0, a1), some (0, a2), some (0, a3)], [(1, a3), (13, a0)], (fQ_plainly a0 (xwr M a0 0 0)))) rfl trivial ?_
      refine xEvG_call xml xfetch (q := (some (0, fQ_isHour a0 a3 (fQ_plainly a0 (xwr M a0 0 0))), (fQ_plainly a0 (xwr M a0 0 0)))) rfl (hQ_isHour a0 a3 (fQ_plainly a0 (xwr M a0 0 0)) _ rfl) ?_
      show xEv (141, 32, [some (13, a0), some (0, a1), some (0, a2), some (0, a3)], [(0, (fQ_isHour a0 a3 (fQ_plainly a0 (xwr M a0 0 0))))], (fQ_plainly a0 (xwr M a0 0 0))) _
      refine xEvG_n xml xfetch 1 (y := (141, if (fQ_isHour a0 a3 (fQ_plainly a0 (xwr M a0 0 0))) = 0 then 45 else 35, [some (13, a0), some (0, a1), some (0, a2), some (0, a3)], [], (fQ_plainly a0 (xwr M a0 0 0)))) rfl trivial ?_
      refine xEvG_br xml xfetch (fun c_ => ?_) (fun c_ => ?_)
      · have h := xif_t c_ h
        refine xEvG_n xml xfetch 1 (y := (141, 47, [some (13, a0), some (0, a1), some (0, a2), some (0, a3)], [(0, (-2))], (fQ_plainly a0 (xwr M a0 0 0)))) rfl trivial ?_
        cases h
        exact xEvG_ret xml xfetch rfl
      · have h := xif_f c_ h
        refine xEvG_n xml xfetch 4 (y := (141, 39, [some (13, a0), some (0, a1), some (0, a2), some (0, a3)], [(0, a3), (0, a2), (0, a1), (13, a0)], (fQ_plainly a0 (xwr M a0 0 0)))) rfl trivial ?_
        obtain ⟨v5, e_, h⟩ := xB_t h
        refine xEvG_call xml xfetch (q := (some (0, v5), (fQ_plainly a0 (xwr M a0 0 0)))) rfl (hQ_reasonOf a0 a1 a2 a3 (fQ_plainly a0 (xwr M a0 0 0)) _ e_) ?_
        show xEv (141, 42, [some (13, a0), some (0, a1), some (0, a2), some (0, a3)], [(0, v5)], (fQ_plainly a0 (xwr M a0 0 0))) _
        refine xEvG_n xml xfetch 1 (y := (141, 47, [some (13, a0), some (0, a1), some (0, a2), some (0, a3)], [(0, v5)], (fQ_plainly a0 (xwr M a0 0 0)))) rfl trivial ?_
        cases h
        exact xEvG_ret xml xfetch rfl

def fQ_hours_L34 : Nat → Int → Int → Int → Int → Int → xM → Option (Int × xM)
  | 0, _, _, _, _, _, _ => none
  | g + 1, x0, x1, x2, x3, x4, M => if x4 < (M (x0 + 7) 1) then (xB (fQ_reasonOf x0 x1 x2 x4 M) (fun v4 => if v4 = 0 then ((fQ_hours_L34 g) x0 x1 x2 (xor32 x3 (xshl 1 x4)) (xw32 (x4 + 1)) M) else ((fQ_hours_L34 g) x0 x1 x2 (xor32 x3 0) (xw32 (x4 + 1)) M))) else (some (x3, M))
theorem hQ_hours_L34 : ∀ (g : Nat) (x0 x1 x2 x3 x4 : Int) (M : xM) (r : Int × xM) (h : fQ_hours_L34 g x0 x1 x2 x3 x4 M = some r), xEv (145, 34, [some (13, x0), some (0, x1), some (0, x2), some (0, x3), some (0, x4)], [], M) (some (0, r.1), r.2)
  | 0, _, _, _, _, _, _, _, h => by cases h
  | g + 1, x0, x1, x2, x3, x4, M, r, h => by
    unfold fQ_hours_L34 at h
    refine xEvG_n xml xfetch 6 (y := (145, if x4 < (M (x0 + 7) 1) then 45 else 73, [some (13, x0), some (0, x1), some (0, x2), some (0, x3), some (0, x4)], [], M)) rfl ⟨by decide, trivial⟩ ?_
    refine xEvG_br xml xfetch (fun c_ => ?_) (fun c_ => ?_)
    · have h := xif_t c_ h
      refine xEvG_n xml xfetch 5 (y := (145, 51, [some (13, x0), some (0, x1), some (0, x2), some (0, x3), some (0, x4)], [(0, x4), (0, x2), (0, x1), (13, x0), (0, x3)], M)) rfl trivial ?_
      obtain ⟨v4, e_, h⟩ := xB_t h
      refine xEvG_call xml xfetch (q := (some (0, v4), M)) rfl (hQ_reasonOf x0 x1 x2 x4 M _ e_) ?_
      show xEv (145, 54, [some (13, x0), some (0, x1), some (0, x2), some (0, x3), some (0, x4)], [(0, v4), (0, x3)], M) _
      refine xEvG_n xml xfetch 1 (y := (145, if v4 = 0 then 57 else 64, [some (13, x0), some (0, x1), some (0, x2), some (0, x3), some (0, x4)], [(0, x3)], M)) rfl trivial ?_
      refine xEvG_br xml xfetch (fun c_ => ?_) (fun c_ => ?_)
      · have h := xif_t c_ h
        refine xEvG_n xml xfetch 8 (y := (145, 34, [some (13, x0), some (0, x1), some (0, x2), some (0, (xor32 x3 (xshl 1 x4))), some (0, (xw32 (x4 + 1)))], [], M)) rfl trivial ?_
        refine xEvG_mask xml xfetch [true, true, true, true, true] ?_
        exact (hQ_hours_L34 g) x0 x1 x2 (xor32 x3 (xshl 1 x4)) (xw32 (x4 + 1)) M _ h
      · have h := xif_f c_ h
        refine xEvG_n xml xfetch 5 (y := (145, 34, [some (13, x0), some (0, x1), some (0, x2), some (0, (xor32 x3 0)), some (0, (xw32 (x4 + 1)))], [], M)) rfl trivial ?_
        refine xEvG_mask xml xfetch [true, true, true, true, true] ?_
        exact (hQ_hours_L34 g) x0 x1 x2 (xor32 x3 0) (xw32 (x4 + 1)) M _ h
    · have h := xif_f c_ h
      refine xEvG_n xml xfetch 1 (y := (145, 74, [some (13, x0), some (0, x1), some (0, x2), some (0, x3), some (0, x4)], [(0, x3)], M)) rfl trivial ?_
      cases h
      exact xEvG_ret xml xfetch rfl
/-- ConsentDoorsModel.hours(II)I -/
def fQ_hours (a0 a1 a2 : Int) (M : xM) : Option (Int × xM) := if (fQ_isCell a0 a1 (xwr M a0 0 0)) = 0 then (some ((-2), (xwr M a0 0 0))) else (if (fQ_isSide a2 (xwr M a0 0 0)) = 0 then (some ((-2), (xwr M a0 0 0))) else (fQ_hours_L34 20001 a0 a1 a2 0 0 (fQ_plainly a0 (xwr M a0 0 0))))
theorem hQ_hours (a0 a1 a2 : Int) (M : xM) (r : Int × xM) (h : fQ_hours a0 a1 a2 M = some r) : xEv (145, 0, [some (13, a0), some (0, a1), some (0, a2), none, none], [], M) (some (0, r.1), r.2) := by
  unfold fQ_hours at h
  refine xEvG_n xml xfetch 6 (y := (145, 8, [some (13, a0), some (0, a1), some (0, a2), none, none], [(1, a1), (13, a0)], (xwr M a0 0 0))) rfl trivial ?_
  refine xEvG_call xml xfetch (q := (some (0, fQ_isCell a0 a1 (xwr M a0 0 0)), (xwr M a0 0 0))) rfl (hQ_isCell a0 a1 (xwr M a0 0 0) _ rfl) ?_
  show xEv (145, 11, [some (13, a0), some (0, a1), some (0, a2), none, none], [(0, (fQ_isCell a0 a1 (xwr M a0 0 0)))], (xwr M a0 0 0)) _
  refine xEvG_n xml xfetch 1 (y := (145, if (fQ_isCell a0 a1 (xwr M a0 0 0)) = 0 then 22 else 14, [some (13, a0), some (0, a1), some (0, a2), none, none], [], (xwr M a0 0 0))) rfl trivial ?_
  refine xEvG_br xml xfetch (fun c_ => ?_) (fun c_ => ?_)
  · have h := xif_t c_ h
    refine xEvG_n xml xfetch 1 (y := (145, 24, [some (13, a0), some (0, a1), some (0, a2), none, none], [(0, (-2))], (xwr M a0 0 0))) rfl trivial ?_
    cases h
    exact xEvG_ret xml xfetch rfl
  · have h := xif_f c_ h
    refine xEvG_n xml xfetch 2 (y := (145, 16, [some (13, a0), some (0, a1), some (0, a2), none, none], [(1, a2)], (xwr M a0 0 0))) rfl trivial ?_
    refine xEvG_call xml xfetch (q := (some (0, fQ_isSide a2 (xwr M a0 0 0)), (xwr M a0 0 0))) rfl (hQ_isSide a2 (xwr M a0 0 0) _ rfl) ?_
    show xEv (145, 19, [some (13, a0), some (0, a1), some (0, a2), none, none], [(0, (fQ_isSide a2 (xwr M a0 0 0)))], (xwr M a0 0 0)) _
    refine xEvG_n xml xfetch 1 (y := (145, if (fQ_isSide a2 (xwr M a0 0 0)) = 0 then 22 else 25, [some (13, a0), some (0, a1), some (0, a2), none, none], [], (xwr M a0 0 0))) rfl trivial ?_
    refine xEvG_br xml xfetch (fun c_ => ?_) (fun c_ => ?_)
    · have h := xif_t c_ h
      refine xEvG_n xml xfetch 1 (y := (145, 24, [some (13, a0), some (0, a1), some (0, a2), none, none], [(0, (-2))], (xwr M a0 0 0))) rfl trivial ?_
      cases h
      exact xEvG_ret xml xfetch rfl
    · have h := xif_f c_ h
      refine xEvG_n xml xfetch 1 (y := (145, 26, [some (13, a0), some (0, a1), some (0, a2), none, none], [(13, a0)], (xwr M a0 0 0))) rfl trivial ?_
      refine xEvG_call xml xfetch (q := (none, fQ_plainly a0 (xwr M a0 0 0))) rfl (hQ_plainly a0 (xwr M a0 0 0) _ rfl) ?_
      show xEv (145, 29, [some (13, a0), some (0, a1), some (0, a2), none, none], [], (fQ_plainly a0 (xwr M a0 0 0))) _
      refine xEvG_n xml xfetch 4 (y := (145, 34, [some (13, a0), some (0, a1), some (0, a2), some (0, 0), some (0, 0)], [], (fQ_plainly a0 (xwr M a0 0 0)))) rfl trivial ?_
      refine xEvG_mask xml xfetch [true, true, true, true, true] ?_
      exact hQ_hours_L34 20001 a0 a1 a2 0 0 (fQ_plainly a0 (xwr M a0 0 0)) _ h

def fQ_laysWould_L24 (k_14 : Int → Int → Int → xM → Option xM) : Nat → Int → Int → Int → Int → Int → xM → Option xM
  | 0, _, _, _, _, _, _ => none
  | g + 1, x0, x1, x2, x3, x4, M => if x4 < (M (x0 + 7) 0) then (if (fQ_isBit (M x0 29) x4 M) = 0 then (xB (fQ_reasonOf x0 x4 x2 x1 M) (fun v2 => if v2 = 0 then ((fQ_laysWould_L24 k_14 g) x0 x1 x2 (xor32 x3 (xshl 1 x4)) (xw32 (x4 + 1)) M) else ((fQ_laysWould_L24 k_14 g) x0 x1 x2 (xor32 x3 0) (xw32 (x4 + 1)) M))) else ((fQ_laysWould_L24 k_14 g) x0 x1 x2 (xor32 x3 0) (xw32 (x4 + 1)) M)) else (xA (0 ≤ (xw32 ((xw32 (2 * x1)) + x2)) ∧ (xw32 ((xw32 (2 * x1)) + x2)) < 48) (k_14 x0 x1 (xw32 (x2 + 1)) (xwr M (x0 + 14) (xw32 ((xw32 (2 * x1)) + x2)) x3)))
theorem hQ_laysWould_L24 (k_14 : Int → Int → Int → xM → Option xM) (hk_14 : ∀ (x0 x1 x2 : Int) (M : xM) (r : xM), k_14 x0 x1 x2 M = some r → xEv (142, 14, [some (13, x0), some (0, x1), some (0, x2), none, none], [], M) (none, r)) : ∀ (g : Nat) (x0 x1 x2 x3 x4 : Int) (M : xM) (r : xM) (h : fQ_laysWould_L24 k_14 g x0 x1 x2 x3 x4 M = some r), xEv (142, 24, [some (13, x0), some (0, x1), some (0, x2), some (0, x3), some (0, x4)], [], M) (none, r)
  | 0, _, _, _, _, _, _, _, h => by cases h
  | g + 1, x0, x1, x2, x3, x4, M, r, h => by
    unfold fQ_laysWould_L24 at h
    refine xEvG_n xml xfetch 6 (y := (142, if x4 < (M (x0 + 7) 0) then 35 else 75, [some (13, x0), some (0, x1), some (0, x2), some (0, x3), some (0, x4)], [], M)) rfl ⟨by decide, trivial⟩ ?_
    refine xEvG_br xml xfetch (fun c_ => ?_) (fun c_ => ?_)
    · have h := xif_t c_ h
      refine xEvG_n xml xfetch 4 (y := (142, 42, [some (13, x0), some (0, x1), some (0, x2), some (0, x3), some (0, x4)], [(0, x4), (0, (M x0 29)), (0, x3)], M)) rfl trivial ?_
      refine xEvG_call xml xfetch (q := (some (0, fQ_isBit (M x0 29) x4 M), M)) rfl (hQ_isBit (M x0 29) x4 M _ rfl) ?_
      show xEv (142, 45, [some (13, x0), some (0, x1), some (0, x2), some (0, x3), some (0, x4)], [(0, (fQ_isBit (M x0 29) x4 M)), (0, x3)], M) _
      refine xEvG_n xml xfetch 1 (y := (142, if (fQ_isBit (M x0 29) x4 M) = 0 then 48 else 66, [some (13, x0), some (0, x1), some (0, x2), some (0, x3), some (0, x4)], [(0, x3)], M)) rfl trivial ?_
      refine xEvG_br xml xfetch (fun c_ => ?_) (fun c_ => ?_)
      · have h := xif_t c_ h
        refine xEvG_n xml xfetch 4 (y := (142, 53, [some (13, x0), some (0, x1), some (0, x2), some (0, x3), some (0, x4)], [(0, x1), (0, x2), (0, x4), (13, x0), (0, x3)], M)) rfl trivial ?_
        obtain ⟨v2, e_, h⟩ := xB_t h
        refine xEvG_call xml xfetch (q := (some (0, v2), M)) rfl (hQ_reasonOf x0 x4 x2 x1 M _ e_) ?_
        show xEv (142, 56, [some (13, x0), some (0, x1), some (0, x2), some (0, x3), some (0, x4)], [(0, v2), (0, x3)], M) _
        refine xEvG_n xml xfetch 1 (y := (142, if v2 = 0 then 59 else 66, [some (13, x0), some (0, x1), some (0, x2), some (0, x3), some (0, x4)], [(0, x3)], M)) rfl trivial ?_
        refine xEvG_br xml xfetch (fun c_ => ?_) (fun c_ => ?_)
        · have h := xif_t c_ h
          refine xEvG_n xml xfetch 8 (y := (142, 24, [some (13, x0), some (0, x1), some (0, x2), some (0, (xor32 x3 (xshl 1 x4))), some (0, (xw32 (x4 + 1)))], [], M)) rfl trivial ?_
          refine xEvG_mask xml xfetch [true, true, true, true, true] ?_
          exact (hQ_laysWould_L24 k_14 hk_14 g) x0 x1 x2 (xor32 x3 (xshl 1 x4)) (xw32 (x4 + 1)) M _ h
        · have h := xif_f c_ h
          refine xEvG_n xml xfetch 5 (y := (142, 24, [some (13, x0), some (0, x1), some (0, x2), some (0, (xor32 x3 0)), some (0, (xw32 (x4 + 1)))], [], M)) rfl trivial ?_
          refine xEvG_mask xml xfetch [true, true, true, true, true] ?_
          exact (hQ_laysWould_L24 k_14 hk_14 g) x0 x1 x2 (xor32 x3 0) (xw32 (x4 + 1)) M _ h
      · have h := xif_f c_ h
        refine xEvG_n xml xfetch 5 (y := (142, 24, [some (13, x0), some (0, x1), some (0, x2), some (0, (xor32 x3 0)), some (0, (xw32 (x4 + 1)))], [], M)) rfl trivial ?_
        refine xEvG_mask xml xfetch [true, true, true, true, true] ?_
        exact (hQ_laysWould_L24 k_14 hk_14 g) x0 x1 x2 (xor32 x3 0) (xw32 (x4 + 1)) M _ h
    · have h := xif_f c_ h
      have a0_ := (xA_t h).1
      have h := (xA_t h).2
      refine xEvG_n xml xfetch 11 (y := (142, 14, [some (13, x0), some (0, x1), some (0, (xw32 (x2 + 1))), some (0, x3), some (0, x4)], [], (xwr M (x0 + 14) (xw32 ((xw32 (2 * x1)) + x2)) x3))) rfl ⟨a0_, trivial⟩ ?_
      refine xEvG_mask xml xfetch [true, true, true, false, false] ?_
      exact hk_14 x0 x1 (xw32 (x2 + 1)) (xwr M (x0 + 14) (xw32 ((xw32 (2 * x1)) + x2)) x3) _ h
def fQ_laysWould_L14 (k_2 : Int → Int → xM → Option xM) : Nat → Int → Int → Int → xM → Option xM
  | 0, _, _, _, _ => none
  | g + 1, x0, x1, x2, M => if x2 < 2 then (fQ_laysWould_L24 (fQ_laysWould_L14 k_2 g) 20001 x0 x1 x2 0 0 M) else (k_2 x0 (xw32 (x1 + 1)) M)
theorem hQ_laysWould_L14 (k_2 : Int → Int → xM → Option xM) (hk_2 : ∀ (x0 x1 : Int) (M : xM) (r : xM), k_2 x0 x1 M = some r → xEv (142, 2, [some (13, x0), some (0, x1), none, none, none], [], M) (none, r)) : ∀ (g : Nat) (x0 x1 x2 : Int) (M : xM) (r : xM) (h : fQ_laysWould_L14 k_2 g x0 x1 x2 M = some r), xEv (142, 14, [some (13, x0), some (0, x1), some (0, x2), none, none], [], M) (none, r)
  | 0, _, _, _, _, _, h => by cases h
  | g + 1, x0, x1, x2, M, r, h => by
    unfold fQ_laysWould_L14 at h
    refine xEvG_n xml xfetch 3 (y := (142, if x2 < 2 then 19 else 92, [some (13, x0), some (0, x1), some (0, x2), none, none], [], M)) rfl trivial ?_
    refine xEvG_br xml xfetch (fun c_ => ?_) (fun c_ => ?_)
    · have h := xif_t c_ h
      refine xEvG_n xml xfetch 4 (y := (142, 24, [some (13, x0), some (0, x1), some (0, x2), some (0, 0), some (0, 0)], [], M)) rfl trivial ?_
      refine xEvG_mask xml xfetch [true, true, true, true, true] ?_
      exact hQ_laysWould_L24 (fQ_laysWould_L14 k_2 g) (hQ_laysWould_L14 k_2 hk_2 g) 20001 x0 x1 x2 0 0 M _ h
    · have h := xif_f c_ h
      refine xEvG_n xml xfetch 2 (y := (142, 2, [some (13, x0), some (0, (xw32 (x1 + 1))), some (0, x2), none, none], [], M)) rfl trivial ?_
      refine xEvG_mask xml xfetch [true, true, false, false, false] ?_
      exact hk_2 x0 (xw32 (x1 + 1)) M _ h
def fQ_laysWould_L2 : Nat → Int → Int → xM → Option xM
  | 0, _, _, _ => none
  | g + 1, x0, x1, M => if x1 < (M (x0 + 7) 1) then (fQ_laysWould_L14 (fQ_laysWould_L2 g) 20001 x0 x1 0 M) else (some M)
theorem hQ_laysWould_L2 : ∀ (g : Nat) (x0 x1 : Int) (M : xM) (r : xM) (h : fQ_laysWould_L2 g x0 x1 M = some r), xEv (142, 2, [some (13, x0), some (0, x1), none, none, none], [], M) (none, r)
  | 0, _, _, _, _, h => by cases h
  | g + 1, x0, x1, M, r, h => by
    unfold fQ_laysWould_L2 at h
    refine xEvG_n xml xfetch 6 (y := (142, if x1 < (M (x0 + 7) 1) then 12 else 98, [some (13, x0), some (0, x1), none, none, none], [], M)) rfl ⟨by decide, trivial⟩ ?_
    refine xEvG_br xml xfetch (fun c_ => ?_) (fun c_ => ?_)
    · have h := xif_t c_ h
      refine xEvG_n xml xfetch 2 (y := (142, 14, [some (13, x0), some (0, x1), some (0, 0), none, none], [], M)) rfl trivial ?_
      refine xEvG_mask xml xfetch [true, true, true, false, false] ?_
      exact hQ_laysWould_L14 (fQ_laysWould_L2 g) (hQ_laysWould_L2 g) 20001 x0 x1 0 M _ h
    · have h := xif_f c_ h
      cases h
      exact xEvG_ret xml xfetch rfl
/-- ConsentDoorsModel.laysWould()V -/
def fQ_laysWould (a0 : Int) (M : xM) : Option xM := fQ_laysWould_L2 20001 a0 0 M
theorem hQ_laysWould (a0 : Int) (M : xM) (r : xM) (h : fQ_laysWould a0 M = some r) : xEv (142, 0, [some (13, a0), none, none, none, none], [], M) (none, r) := by
  unfold fQ_laysWould at h
  refine xEvG_n xml xfetch 2 (y := (142, 2, [some (13, a0), some (0, 0), none, none, none], [], M)) rfl trivial ?_
  refine xEvG_mask xml xfetch [true, true, false, false, false] ?_
  exact hQ_laysWould_L2 20001 a0 0 M _ h

/-- ConsentDoorsModel.lays()V -/
def fQ_lays (a0 : Int) (M : xM) : Option xM := xB (fQ_laysWould a0 (fQ_plainly a0 M)) (fun m2 => some m2)
theorem hQ_lays (a0 : Int) (M : xM) (r : xM) (h : fQ_lays a0 M = some r) : xEv (147, 0, [some (13, a0)], [], M) (none, r) := by
  unfold fQ_lays at h
  refine xEvG_n xml xfetch 1 (y := (147, 1, [some (13, a0)], [(13, a0)], M)) rfl trivial ?_
  refine xEvG_call xml xfetch (q := (none, fQ_plainly a0 M)) rfl (hQ_plainly a0 M _ rfl) ?_
  show xEv (147, 4, [some (13, a0)], [], (fQ_plainly a0 M)) _
  refine xEvG_n xml xfetch 1 (y := (147, 5, [some (13, a0)], [(13, a0)], (fQ_plainly a0 M))) rfl trivial ?_
  obtain ⟨m2, e_, h⟩ := xB_t h
  refine xEvG_call xml xfetch (q := (none, m2)) rfl (hQ_laysWould a0 (fQ_plainly a0 M) _ e_) ?_
  show xEv (147, 8, [some (13, a0)], [], m2) _
  cases h
  exact xEvG_ret xml xfetch rfl

/-- ConsentDoorsModel.isLoyal(I)Z -/
def fQ_isLoyal (a0 a1 : Int) (M : xM) : Option Int := xA (0 ≤ (xw32 ((xw32 (6 * a1)) + 5)) ∧ (xw32 ((xw32 (6 * a1)) + 5)) < 270) (if (M (a0 + 8) (xw32 ((xw32 (6 * a1)) + 5))) = 1 then (some 1) else (some (if (fQ_isBit (M a0 28) a1 M) = 0 then 0 else 1 : Int)))
theorem hQ_isLoyal (a0 a1 : Int) (M : xM) (r : Int) (h : fQ_isLoyal a0 a1 M = some r) : xEv (133, 0, [some (13, a0), some (0, a1)], [], M) (some (0, r), M) := by
  unfold fQ_isLoyal at h
  have a0_ := (xA_t h).1
  have h := (xA_t h).2
  refine xEvG_n xml xfetch 10 (y := (133, if (M (a0 + 8) (xw32 ((xw32 (6 * a1)) + 5))) = 1 then 26 else 15, [some (13, a0), some (0, a1)], [], M)) rfl ⟨a0_, trivial⟩ ?_
  refine xEvG_br xml xfetch (fun c_ => ?_) (fun c_ => ?_)
  · have h := xif_t c_ h
    refine xEvG_n xml xfetch 2 (y := (133, 31, [some (13, a0), some (0, a1)], [(0, 1)], M)) rfl trivial ?_
    cases h
    exact xEvG_retc xml xfetch rfl (Or.inr rfl)
  · have h := xif_f c_ h
    refine xEvG_n xml xfetch 3 (y := (133, 20, [some (13, a0), some (0, a1)], [(0, a1), (0, (M a0 28))], M)) rfl trivial ?_
    refine xEvG_call xml xfetch (q := (some (0, fQ_isBit (M a0 28) a1 M), M)) rfl (hQ_isBit (M a0 28) a1 M _ rfl) ?_
    show xEv (133, 23, [some (13, a0), some (0, a1)], [(0, (fQ_isBit (M a0 28) a1 M))], M) _
    have key_ : xEv (133, 31, [some (13, a0), some (0, a1)], [(0, (if (fQ_isBit (M a0 28) a1 M) = 0 then 0 else 1 : Int))], M) (some (0, r), M) := by
      cases h
      exact xEvG_retc xml xfetch rfl (by (repeat' split) <;> first | exact Or.inl rfl | exact Or.inr rfl)
    refine xEvG_n xml xfetch 1 (y := (133, if (fQ_isBit (M a0 28) a1 M) = 0 then 30 else 26, [some (13, a0), some (0, a1)], [], M)) rfl trivial ?_
    refine xEvG_br xml xfetch (fun c4_ => ?_) (fun c4_ => ?_)
    · refine xEvG_n xml xfetch 1 (y := (133, 31, [some (13, a0), some (0, a1)], [(0, 0)], M)) rfl trivial ?_
      try simp only [if_pos c4_] at key_
      try simp only [if_pos c4_]
      exact key_
    · refine xEvG_n xml xfetch 2 (y := (133, 31, [some (13, a0), some (0, a1)], [(0, 1)], M)) rfl trivial ?_
      try simp only [if_neg c4_] at key_
      try simp only [if_neg c4_]
      exact key_

/-- ConsentDoorsModel.turns(IIII)Z -/
def fQ_turns (a0 a1 a2 a3 a4 : Int) (M : xM) : Option Int := xB (fQ_besideIn a0 0 a1 a2 M) (fun v1 => if v1 = (-1) then (some 1) else (xA (0 ≤ (xw32 ((xw32 ((xw32 (2 * a3)) + 1)) - a2)) ∧ (xw32 ((xw32 ((xw32 (2 * a3)) + 1)) - a2)) < 48) (if (fQ_isBit (M (a0 + 14) (xw32 ((xw32 ((xw32 (2 * a3)) + 1)) - a2))) v1 M) = 0 then (some 0) else (if (fQ_isBit a4 v1 M) = 0 then (some 1) else (xB (fQ_isLoyal a0 v1 M) (fun v4 => some (if v4 = 0 then 0 else 1 : Int)))))))
theorem hQ_turns (a0 a1 a2 a3 a4 : Int) (M : xM) (r : Int) (h : fQ_turns a0 a1 a2 a3 a4 M = some r) : xEv (143, 0, [some (13, a0), some (0, a1), some (0, a2), some (0, a3), some (0, a4), none], [], M) (some (0, r), M) := by
  unfold fQ_turns at h
  refine xEvG_n xml xfetch 4 (y := (143, 4, [some (13, a0), some (0, a1), some (0, a2), some (0, a3), some (0, a4), none], [(0, a2), (0, a1), (0, 0), (13, a0)], M)) rfl trivial ?_
  obtain ⟨v1, e_, h⟩ := xB_t h
  refine xEvG_call xml xfetch (q := (some (0, v1), M)) rfl (hQ_besideIn a0 0 a1 a2 M _ e_) ?_
  show xEv (143, 7, [some (13, a0), some (0, a1), some (0, a2), some (0, a3), some (0, a4), none], [(0, v1)], M) _
  refine xEvG_n xml xfetch 4 (y := (143, if v1 = (-1) then 54 else 15, [some (13, a0), some (0, a1), some (0, a2), some (0, a3), some (0, a4), some (0, v1)], [], M)) rfl trivial ?_
  refine xEvG_br xml xfetch (fun c_ => ?_) (fun c_ => ?_)
  · have h := xif_t c_ h
    refine xEvG_n xml xfetch 2 (y := (143, 59, [some (13, a0), some (0, a1), some (0, a2), some (0, a3), some (0, a4), some (0, v1)], [(0, 1)], M)) rfl trivial ?_
    cases h
    exact xEvG_retc xml xfetch rfl (Or.inr rfl)
  · have h := xif_f c_ h
    have a0_ := (xA_t h).1
    have h := (xA_t h).2
    refine xEvG_n xml xfetch 11 (y := (143, 29, [some (13, a0), some (0, a1), some (0, a2), some (0, a3), some (0, a4), some (0, v1)], [(0, v1), (0, (M (a0 + 14) (xw32 ((xw32 ((xw32 (2 * a3)) + 1)) - a2))))], M)) rfl ⟨a0_, trivial⟩ ?_
    refine xEvG_call xml xfetch (q := (some (0, fQ_isBit (M (a0 + 14) (xw32 ((xw32 ((xw32 (2 * a3)) + 1)) - a2))) v1 M), M)) rfl (hQ_isBit (M (a0 + 14) (xw32 ((xw32 ((xw32 (2 * a3)) + 1)) - a2))) v1 M _ rfl) ?_
    show xEv (143, 32, [some (13, a0), some (0, a1), some (0, a2), some (0, a3), some (0, a4), some (0, v1)], [(0, (fQ_isBit (M (a0 + 14) (xw32 ((xw32 ((xw32 (2 * a3)) + 1)) - a2))) v1 M))], M) _
    refine xEvG_n xml xfetch 1 (y := (143, if (fQ_isBit (M (a0 + 14) (xw32 ((xw32 ((xw32 (2 * a3)) + 1)) - a2))) v1 M) = 0 then 58 else 35, [some (13, a0), some (0, a1), some (0, a2), some (0, a3), some (0, a4), some (0, v1)], [], M)) rfl trivial ?_
    refine xEvG_br xml xfetch (fun c_ => ?_) (fun c_ => ?_)
    · have h := xif_t c_ h
      refine xEvG_n xml xfetch 1 (y := (143, 59, [some (13, a0), some (0, a1), some (0, a2), some (0, a3), some (0, a4), some (0, v1)], [(0, 0)], M)) rfl trivial ?_
      cases h
      exact xEvG_retc xml xfetch rfl (Or.inl rfl)
    · have h := xif_f c_ h
      refine xEvG_n xml xfetch 2 (y := (143, 39, [some (13, a0), some (0, a1), some (0, a2), some (0, a3), some (0, a4), some (0, v1)], [(0, v1), (0, a4)], M)) rfl trivial ?_
      refine xEvG_call xml xfetch (q := (some (0, fQ_isBit a4 v1 M), M)) rfl (hQ_isBit a4 v1 M _ rfl) ?_
      show xEv (143, 42, [some (13, a0), some (0, a1), some (0, a2), some (0, a3), some (0, a4), some (0, v1)], [(0, (fQ_isBit a4 v1 M))], M) _
      refine xEvG_n xml xfetch 1 (y := (143, if (fQ_isBit a4 v1 M) = 0 then 54 else 45, [some (13, a0), some (0, a1), some (0, a2), some (0, a3), some (0, a4), some (0, v1)], [], M)) rfl trivial ?_
      refine xEvG_br xml xfetch (fun c_ => ?_) (fun c_ => ?_)
      · have h := xif_t c_ h
        refine xEvG_n xml xfetch 2 (y := (143, 59, [some (13, a0), some (0, a1), some (0, a2), some (0, a3), some (0, a4), some (0, v1)], [(0, 1)], M)) rfl trivial ?_
        cases h
        exact xEvG_retc xml xfetch rfl (Or.inr rfl)
      · have h := xif_f c_ h
        refine xEvG_n xml xfetch 2 (y := (143, 48, [some (13, a0), some (0, a1), some (0, a2), some (0, a3), some (0, a4), some (0, v1)], [(0, v1), (13, a0)], M)) rfl trivial ?_
        obtain ⟨v4, e_, h⟩ := xB_t h
        refine xEvG_call xml xfetch (q := (some (0, v4), M)) rfl (hQ_isLoyal a0 v1 M _ e_) ?_
        show xEv (143, 51, [some (13, a0), some (0, a1), some (0, a2), some (0, a3), some (0, a4), some (0, v1)], [(0, v4)], M) _
        have key_ : xEv (143, 59, [some (13, a0), some (0, a1), some (0, a2), some (0, a3), some (0, a4), some (0, v1)], [(0, (if v4 = 0 then 0 else 1 : Int))], M) (some (0, r), M) := by
          cases h
          exact xEvG_retc xml xfetch rfl (by (repeat' split) <;> first | exact Or.inl rfl | exact Or.inr rfl)
        refine xEvG_n xml xfetch 1 (y := (143, if v4 = 0 then 58 else 54, [some (13, a0), some (0, a1), some (0, a2), some (0, a3), some (0, a4), some (0, v1)], [], M)) rfl trivial ?_
        refine xEvG_br xml xfetch (fun c8_ => ?_) (fun c8_ => ?_)
        · refine xEvG_n xml xfetch 1 (y := (143, 59, [some (13, a0), some (0, a1), some (0, a2), some (0, a3), some (0, a4), some (0, v1)], [(0, 0)], M)) rfl trivial ?_
          try simp only [if_pos c8_] at key_
          try simp only [if_pos c8_]
          exact key_
        · refine xEvG_n xml xfetch 2 (y := (143, 59, [some (13, a0), some (0, a1), some (0, a2), some (0, a3), some (0, a4), some (0, v1)], [(0, 1)], M)) rfl trivial ?_
          try simp only [if_neg c8_] at key_
          try simp only [if_neg c8_]
          exact key_

/-- ConsentDoorsModel.opensIf(III)Z -/
def fQ_opensIf (a0 a1 a2 a3 : Int) (M : xM) : Option Int := if (fQ_isBit a3 a1 M) = 0 then (xB (fQ_turns a0 a1 0 a2 a3 M) (fun v2 => if v2 = 0 then (some 0) else (xB (fQ_turns a0 a1 1 a2 a3 M) (fun v3 => some (if v3 = 0 then 0 else 1 : Int))))) else (some 0)
theorem hQ_opensIf (a0 a1 a2 a3 : Int) (M : xM) (r : Int) (h : fQ_opensIf a0 a1 a2 a3 M = some r) : xEv (144, 0, [some (13, a0), some (0, a1), some (0, a2), some (0, a3)], [], M) (some (0, r), M) := by
  unfold fQ_opensIf at h
  refine xEvG_n xml xfetch 2 (y := (144, 2, [some (13, a0), some (0, a1), some (0, a2), some (0, a3)], [(0, a1), (0, a3)], M)) rfl trivial ?_
  refine xEvG_call xml xfetch (q := (some (0, fQ_isBit a3 a1 M), M)) rfl (hQ_isBit a3 a1 M _ rfl) ?_
  show xEv (144, 5, [some (13, a0), some (0, a1), some (0, a2), some (0, a3)], [(0, (fQ_isBit a3 a1 M))], M) _
  refine xEvG_n xml xfetch 1 (y := (144, if (fQ_isBit a3 a1 M) = 0 then 8 else 34, [some (13, a0), some (0, a1), some (0, a2), some (0, a3)], [], M)) rfl trivial ?_
  refine xEvG_br xml xfetch (fun c_ => ?_) (fun c_ => ?_)
  · have h := xif_t c_ h
    refine xEvG_n xml xfetch 5 (y := (144, 13, [some (13, a0), some (0, a1), some (0, a2), some (0, a3)], [(0, a3), (0, a2), (0, 0), (0, a1), (13, a0)], M)) rfl trivial ?_
    obtain ⟨v2, e_, h⟩ := xB_t h
    refine xEvG_call xml xfetch (q := (some (0, v2), M)) rfl (hQ_turns a0 a1 0 a2 a3 M _ e_) ?_
    show xEv (144, 16, [some (13, a0), some (0, a1), some (0, a2), some (0, a3)], [(0, v2)], M) _
    refine xEvG_n xml xfetch 1 (y := (144, if v2 = 0 then 34 else 19, [some (13, a0), some (0, a1), some (0, a2), some (0, a3)], [], M)) rfl trivial ?_
    refine xEvG_br xml xfetch (fun c_ => ?_) (fun c_ => ?_)
    · have h := xif_t c_ h
      refine xEvG_n xml xfetch 1 (y := (144, 35, [some (13, a0), some (0, a1), some (0, a2), some (0, a3)], [(0, 0)], M)) rfl trivial ?_
      cases h
      exact xEvG_retc xml xfetch rfl (Or.inl rfl)
    · have h := xif_f c_ h
      refine xEvG_n xml xfetch 5 (y := (144, 24, [some (13, a0), some (0, a1), some (0, a2), some (0, a3)], [(0, a3), (0, a2), (0, 1), (0, a1), (13, a0)], M)) rfl trivial ?_
      obtain ⟨v3, e_, h⟩ := xB_t h
      refine xEvG_call xml xfetch (q := (some (0, v3), M)) rfl (hQ_turns a0 a1 1 a2 a3 M _ e_) ?_
      show xEv (144, 27, [some (13, a0), some (0, a1), some (0, a2), some (0, a3)], [(0, v3)], M) _
      have key_ : xEv (144, 35, [some (13, a0), some (0, a1), some (0, a2), some (0, a3)], [(0, (if v3 = 0 then 0 else 1 : Int))], M) (some (0, r), M) := by
        cases h
        exact xEvG_retc xml xfetch rfl (by (repeat' split) <;> first | exact Or.inl rfl | exact Or.inr rfl)
      refine xEvG_n xml xfetch 1 (y := (144, if v3 = 0 then 34 else 30, [some (13, a0), some (0, a1), some (0, a2), some (0, a3)], [], M)) rfl trivial ?_
      refine xEvG_br xml xfetch (fun c6_ => ?_) (fun c6_ => ?_)
      · refine xEvG_n xml xfetch 1 (y := (144, 35, [some (13, a0), some (0, a1), some (0, a2), some (0, a3)], [(0, 0)], M)) rfl trivial ?_
        try simp only [if_pos c6_] at key_
        try simp only [if_pos c6_]
        exact key_
      · refine xEvG_n xml xfetch 2 (y := (144, 35, [some (13, a0), some (0, a1), some (0, a2), some (0, a3)], [(0, 1)], M)) rfl trivial ?_
        try simp only [if_neg c6_] at key_
        try simp only [if_neg c6_]
        exact key_
  · have h := xif_f c_ h
    refine xEvG_n xml xfetch 1 (y := (144, 35, [some (13, a0), some (0, a1), some (0, a2), some (0, a3)], [(0, 0)], M)) rfl trivial ?_
    cases h
    exact xEvG_retc xml xfetch rfl (Or.inl rfl)

def fQ_couldOf_L4 : Nat → Int → Int → Int → Int → xM → Option Int
  | 0, _, _, _, _, _ => none
  | g + 1, x0, x1, x2, x3, M => if x3 < (M (x0 + 7) 1) then (xB (fQ_opensIf x0 x1 x3 0 M) (fun v1 => if v1 = 0 then ((fQ_couldOf_L4 g) x0 x1 (xor32 x2 0) (xw32 (x3 + 1)) M) else ((fQ_couldOf_L4 g) x0 x1 (xor32 x2 (xshl 1 x3)) (xw32 (x3 + 1)) M))) else (some x2)
theorem hQ_couldOf_L4 : ∀ (g : Nat) (x0 x1 x2 x3 : Int) (M : xM) (r : Int) (h : fQ_couldOf_L4 g x0 x1 x2 x3 M = some r), xEv (146, 4, [some (13, x0), some (0, x1), some (0, x2), some (0, x3)], [], M) (some (0, r), M)
  | 0, _, _, _, _, _, _, h => by cases h
  | g + 1, x0, x1, x2, x3, M, r, h => by
    unfold fQ_couldOf_L4 at h
    refine xEvG_n xml xfetch 6 (y := (146, if x3 < (M (x0 + 7) 1) then 14 else 40, [some (13, x0), some (0, x1), some (0, x2), some (0, x3)], [], M)) rfl ⟨by decide, trivial⟩ ?_
    refine xEvG_br xml xfetch (fun c_ => ?_) (fun c_ => ?_)
    · have h := xif_t c_ h
      refine xEvG_n xml xfetch 5 (y := (146, 19, [some (13, x0), some (0, x1), some (0, x2), some (0, x3)], [(0, 0), (0, x3), (0, x1), (13, x0), (0, x2)], M)) rfl trivial ?_
      obtain ⟨v1, e_, h⟩ := xB_t h
      refine xEvG_call xml xfetch (q := (some (0, v1), M)) rfl (hQ_opensIf x0 x1 x3 0 M _ e_) ?_
      show xEv (146, 22, [some (13, x0), some (0, x1), some (0, x2), some (0, x3)], [(0, v1), (0, x2)], M) _
      refine xEvG_n xml xfetch 1 (y := (146, if v1 = 0 then 31 else 25, [some (13, x0), some (0, x1), some (0, x2), some (0, x3)], [(0, x2)], M)) rfl trivial ?_
      refine xEvG_br xml xfetch (fun c_ => ?_) (fun c_ => ?_)
      · have h := xif_t c_ h
        refine xEvG_n xml xfetch 5 (y := (146, 4, [some (13, x0), some (0, x1), some (0, (xor32 x2 0)), some (0, (xw32 (x3 + 1)))], [], M)) rfl trivial ?_
        refine xEvG_mask xml xfetch [true, true, true, true] ?_
        exact (hQ_couldOf_L4 g) x0 x1 (xor32 x2 0) (xw32 (x3 + 1)) M _ h
      · have h := xif_f c_ h
        refine xEvG_n xml xfetch 8 (y := (146, 4, [some (13, x0), some (0, x1), some (0, (xor32 x2 (xshl 1 x3))), some (0, (xw32 (x3 + 1)))], [], M)) rfl trivial ?_
        refine xEvG_mask xml xfetch [true, true, true, true] ?_
        exact (hQ_couldOf_L4 g) x0 x1 (xor32 x2 (xshl 1 x3)) (xw32 (x3 + 1)) M _ h
    · have h := xif_f c_ h
      refine xEvG_n xml xfetch 1 (y := (146, 41, [some (13, x0), some (0, x1), some (0, x2), some (0, x3)], [(0, x2)], M)) rfl trivial ?_
      cases h
      exact xEvG_ret xml xfetch rfl
/-- ConsentDoorsModel.couldOf(I)I -/
def fQ_couldOf (a0 a1 : Int) (M : xM) : Option Int := fQ_couldOf_L4 20001 a0 a1 0 0 M
theorem hQ_couldOf (a0 a1 : Int) (M : xM) (r : Int) (h : fQ_couldOf a0 a1 M = some r) : xEv (146, 0, [some (13, a0), some (0, a1), none, none], [], M) (some (0, r), M) := by
  unfold fQ_couldOf at h
  refine xEvG_n xml xfetch 4 (y := (146, 4, [some (13, a0), some (0, a1), some (0, 0), some (0, 0)], [], M)) rfl trivial ?_
  refine xEvG_mask xml xfetch [true, true, true, true] ?_
  exact hQ_couldOf_L4 20001 a0 a1 0 0 M _ h

/-- ConsentDoorsModel.could(I)I -/
def fQ_could (a0 a1 : Int) (M : xM) : Option (Int × xM) := if (fQ_isCell a0 a1 (xwr M a0 0 0)) = 0 then (some ((-2), (xwr M a0 0 0))) else (xB (fQ_lays a0 (xwr M a0 0 0)) (fun m2 => xB (fQ_couldOf a0 a1 m2) (fun v3 => some (v3, m2))))
theorem hQ_could (a0 a1 : Int) (M : xM) (r : Int × xM) (h : fQ_could a0 a1 M = some r) : xEv (148, 0, [some (13, a0), some (0, a1)], [], M) (some (0, r.1), r.2) := by
  unfold fQ_could at h
  refine xEvG_n xml xfetch 6 (y := (148, 8, [some (13, a0), some (0, a1)], [(1, a1), (13, a0)], (xwr M a0 0 0))) rfl trivial ?_
  refine xEvG_call xml xfetch (q := (some (0, fQ_isCell a0 a1 (xwr M a0 0 0)), (xwr M a0 0 0))) rfl (hQ_isCell a0 a1 (xwr M a0 0 0) _ rfl) ?_
  show xEv (148, 11, [some (13, a0), some (0, a1)], [(0, (fQ_isCell a0 a1 (xwr M a0 0 0)))], (xwr M a0 0 0)) _
  refine xEvG_n xml xfetch 1 (y := (148, if (fQ_isCell a0 a1 (xwr M a0 0 0)) = 0 then 14 else 17, [some (13, a0), some (0, a1)], [], (xwr M a0 0 0))) rfl trivial ?_
  refine xEvG_br xml xfetch (fun c_ => ?_) (fun c_ => ?_)
  · have h := xif_t c_ h
    refine xEvG_n xml xfetch 1 (y := (148, 16, [some (13, a0), some (0, a1)], [(0, (-2))], (xwr M a0 0 0))) rfl trivial ?_
    cases h
    exact xEvG_ret xml xfetch rfl
  · have h := xif_f c_ h
    refine xEvG_n xml xfetch 1 (y := (148, 18, [some (13, a0), some (0, a1)], [(13, a0)], (xwr M a0 0 0))) rfl trivial ?_
    obtain ⟨m2, e_, h⟩ := xB_t h
    refine xEvG_call xml xfetch (q := (none, m2)) rfl (hQ_lays a0 (xwr M a0 0 0) _ e_) ?_
    show xEv (148, 21, [some (13, a0), some (0, a1)], [], m2) _
    refine xEvG_n xml xfetch 2 (y := (148, 23, [some (13, a0), some (0, a1)], [(0, a1), (13, a0)], m2)) rfl trivial ?_
    obtain ⟨v3, e_, h⟩ := xB_t h
    refine xEvG_call xml xfetch (q := (some (0, v3), m2)) rfl (hQ_couldOf a0 a1 m2 _ e_) ?_
    show xEv (148, 26, [some (13, a0), some (0, a1)], [(0, v3)], m2) _
    cases h
    exact xEvG_ret xml xfetch rfl

def fQ_longest_L77 (k_49 : Int → Int → Int → Int → Int → Int → Int → xM → Option (Int × xM)) (x0 x2 x3 x4 x5 x7 y0 : Int) (M : xM) : Option (Int × xM) := if x4 < y0 then (k_49 x0 x2 x3 y0 (xw32 ((xw32 (x7 - y0)) + 1)) y0 (xw32 (x7 + 1)) M) else (k_49 x0 x2 x3 x4 x5 y0 (xw32 (x7 + 1)) M)
theorem hQ_longest_L77 (k_49 : Int → Int → Int → Int → Int → Int → Int → xM → Option (Int × xM)) (hk_49 : ∀ (x0 x2 x3 x4 x5 x6 x7 : Int) (M : xM) (r : Int × xM), k_49 x0 x2 x3 x4 x5 x6 x7 M = some r → xEv (149, 49, [some (13, x0), none, some (0, x2), some (0, x3), some (0, x4), some (0, x5), some (0, x6), some (0, x7)], [], M) (some (0, r.1), r.2)) (x0 x2 x3 x4 x5 x7 y0 : Int) (M : xM) (r : Int × xM) (h : fQ_longest_L77 k_49 x0 x2 x3 x4 x5 x7 y0 M = some r) : xEv (149, 77, [some (13, x0), none, some (0, x2), some (0, x3), some (0, x4), some (0, x5), none, some (0, x7)], [(0, y0)], M) (some (0, r.1), r.2) := by
  unfold fQ_longest_L77 at h
  refine xEvG_n xml xfetch 4 (y := (149, if x4 < y0 then 89 else 86, [some (13, x0), none, some (0, x2), some (0, x3), some (0, x4), some (0, x5), some (0, y0), some (0, x7)], [], M)) rfl trivial ?_
  refine xEvG_br xml xfetch (fun c_ => ?_) (fun c_ => ?_)
  · have h := xif_t c_ h
    refine xEvG_n xml xfetch 10 (y := (149, 49, [some (13, x0), none, some (0, x2), some (0, x3), some (0, y0), some (0, (xw32 ((xw32 (x7 - y0)) + 1))), some (0, y0), some (0, (xw32 (x7 + 1)))], [], M)) rfl trivial ?_
    refine xEvG_mask xml xfetch [true, false, true, true, true, true, true, true] ?_
    exact hk_49 x0 x2 x3 y0 (xw32 ((xw32 (x7 - y0)) + 1)) y0 (xw32 (x7 + 1)) M _ h
  · have h := xif_f c_ h
    refine xEvG_n xml xfetch 3 (y := (149, 49, [some (13, x0), none, some (0, x2), some (0, x3), some (0, x4), some (0, x5), some (0, y0), some (0, (xw32 (x7 + 1)))], [], M)) rfl trivial ?_
    refine xEvG_mask xml xfetch [true, false, true, true, true, true, true, true] ?_
    exact hk_49 x0 x2 x3 x4 x5 y0 (xw32 (x7 + 1)) M _ h
def fQ_longest_L49 : Nat → Int → Int → Int → Int → Int → Int → Int → xM → Option (Int × xM)
  | 0, _, _, _, _, _, _, _, _ => none
  | g + 1, x0, x2, x3, x4, x5, x6, x7, M => if x7 < (M (x0 + 7) 1) then (if (fQ_isBit x3 x7 M) = 0 then (fQ_longest_L77 (fQ_longest_L49 g) x0 x2 x3 x4 x5 x7 0 M) else (fQ_longest_L77 (fQ_longest_L49 g) x0 x2 x3 x4 x5 x7 (xw32 (x6 + 1)) M)) else (some ((if x2 = 0 then x4 else x5 : Int), M))
theorem hQ_longest_L49 : ∀ (g : Nat) (x0 x2 x3 x4 x5 x6 x7 : Int) (M : xM) (r : Int × xM) (h : fQ_longest_L49 g x0 x2 x3 x4 x5 x6 x7 M = some r), xEv (149, 49, [some (13, x0), none, some (0, x2), some (0, x3), some (0, x4), some (0, x5), some (0, x6), some (0, x7)], [], M) (some (0, r.1), r.2)
  | 0, _, _, _, _, _, _, _, _, _, h => by cases h
  | g + 1, x0, x2, x3, x4, x5, x6, x7, M, r, h => by
    unfold fQ_longest_L49 at h
    refine xEvG_n xml xfetch 6 (y := (149, if x7 < (M (x0 + 7) 1) then 60 else 108, [some (13, x0), none, some (0, x2), some (0, x3), some (0, x4), some (0, x5), some (0, x6), some (0, x7)], [], M)) rfl ⟨by decide, trivial⟩ ?_
    refine xEvG_br xml xfetch (fun c_ => ?_) (fun c_ => ?_)
    · have h := xif_t c_ h
      refine xEvG_n xml xfetch 2 (y := (149, 63, [some (13, x0), none, some (0, x2), some (0, x3), some (0, x4), some (0, x5), some (0, x6), some (0, x7)], [(0, x7), (0, x3)], M)) rfl trivial ?_
      refine xEvG_call xml xfetch (q := (some (0, fQ_isBit x3 x7 M), M)) rfl (hQ_isBit x3 x7 M _ rfl) ?_
      show xEv (149, 66, [some (13, x0), none, some (0, x2), some (0, x3), some (0, x4), some (0, x5), some (0, x6), some (0, x7)], [(0, (fQ_isBit x3 x7 M))], M) _
      refine xEvG_n xml xfetch 1 (y := (149, if (fQ_isBit x3 x7 M) = 0 then 76 else 69, [some (13, x0), none, some (0, x2), some (0, x3), some (0, x4), some (0, x5), some (0, x6), some (0, x7)], [], M)) rfl trivial ?_
      refine xEvG_br xml xfetch (fun c_ => ?_) (fun c_ => ?_)
      · have h := xif_t c_ h
        refine xEvG_n xml xfetch 1 (y := (149, 77, [some (13, x0), none, some (0, x2), some (0, x3), some (0, x4), some (0, x5), some (0, x6), some (0, x7)], [(0, 0)], M)) rfl trivial ?_
        refine xEvG_mask xml xfetch [true, false, true, true, true, true, false, true] ?_
        exact hQ_longest_L77 (fQ_longest_L49 g) (hQ_longest_L49 g) x0 x2 x3 x4 x5 x7 0 M _ h
      · have h := xif_f c_ h
        refine xEvG_n xml xfetch 4 (y := (149, 77, [some (13, x0), none, some (0, x2), some (0, x3), some (0, x4), some (0, x5), some (0, x6), some (0, x7)], [(0, (xw32 (x6 + 1)))], M)) rfl trivial ?_
        refine xEvG_mask xml xfetch [true, false, true, true, true, true, false, true] ?_
        exact hQ_longest_L77 (fQ_longest_L49 g) (hQ_longest_L49 g) x0 x2 x3 x4 x5 x7 (xw32 (x6 + 1)) M _ h
    · have h := xif_f c_ h
      refine xEvG_n xml xfetch 1 (y := (149, 109, [some (13, x0), none, some (0, x2), some (0, x3), some (0, x4), some (0, x5), some (0, x6), some (0, x7)], [(0, x2)], M)) rfl trivial ?_
      have key_ : xEv (149, 119, [some (13, x0), none, some (0, x2), some (0, x3), some (0, x4), some (0, x5), some (0, x6), some (0, x7)], [(0, (if x2 = 0 then x4 else x5 : Int))], M) (some (0, r.1), r.2) := by
        cases h
        exact xEvG_ret xml xfetch rfl
      refine xEvG_n xml xfetch 1 (y := (149, if x2 = 0 then 112 else 117, [some (13, x0), none, some (0, x2), some (0, x3), some (0, x4), some (0, x5), some (0, x6), some (0, x7)], [], M)) rfl trivial ?_
      refine xEvG_br xml xfetch (fun c6_ => ?_) (fun c6_ => ?_)
      · refine xEvG_n xml xfetch 2 (y := (149, 119, [some (13, x0), none, some (0, x2), some (0, x3), some (0, x4), some (0, x5), some (0, x6), some (0, x7)], [(0, x4)], M)) rfl trivial ?_
        try simp only [if_pos c6_] at key_
        try simp only [if_pos c6_]
        exact key_
      · refine xEvG_n xml xfetch 1 (y := (149, 119, [some (13, x0), none, some (0, x2), some (0, x3), some (0, x4), some (0, x5), some (0, x6), some (0, x7)], [(0, x5)], M)) rfl trivial ?_
        try simp only [if_neg c6_] at key_
        try simp only [if_neg c6_]
        exact key_
/-- ConsentDoorsModel.longest(II)I -/
def fQ_longest (a0 a1 a2 : Int) (M : xM) : Option (Int × xM) := if (fQ_isCell a0 a1 (xwr M a0 0 0)) = 0 then (some ((-2), (xwr M a0 0 0))) else (if (fQ_in a2 0 1 (xwr M a0 0 0)) = 0 then (some ((-2), (xwr M a0 0 0))) else (xB (fQ_lays a0 (xwr M a0 0 0)) (fun m3 => xB (fQ_couldOf a0 a1 m3) (fun v4 => fQ_longest_L49 20001 a0 a2 v4 0 (-1) 0 0 m3))))
theorem hQ_longest (a0 a1 a2 : Int) (M : xM) (r : Int × xM) (h : fQ_longest a0 a1 a2 M = some r) : xEv (149, 0, [some (13, a0), some (0, a1), some (0, a2), none, none, none, none, none], [], M) (some (0, r.1), r.2) := by
  unfold fQ_longest at h
  refine xEvG_n xml xfetch 6 (y := (149, 8, [some (13, a0), some (0, a1), some (0, a2), none, none, none, none, none], [(1, a1), (13, a0)], (xwr M a0 0 0))) rfl trivial ?_
  refine xEvG_call xml xfetch (q := (some (0, fQ_isCell a0 a1 (xwr M a0 0 0)), (xwr M a0 0 0))) rfl (hQ_isCell a0 a1 (xwr M a0 0 0) _ rfl) ?_
  show xEv (149, 11, [some (13, a0), some (0, a1), some (0, a2), none, none, none, none, none], [(0, (fQ_isCell a0 a1 (xwr M a0 0 0)))], (xwr M a0 0 0)) _
  refine xEvG_n xml xfetch 1 (y := (149, if (fQ_isCell a0 a1 (xwr M a0 0 0)) = 0 then 24 else 14, [some (13, a0), some (0, a1), some (0, a2), none, none, none, none, none], [], (xwr M a0 0 0))) rfl trivial ?_
  refine xEvG_br xml xfetch (fun c_ => ?_) (fun c_ => ?_)
  · have h := xif_t c_ h
    refine xEvG_n xml xfetch 1 (y := (149, 26, [some (13, a0), some (0, a1), some (0, a2), none, none, none, none, none], [(0, (-2))], (xwr M a0 0 0))) rfl trivial ?_
    cases h
    exact xEvG_ret xml xfetch rfl
  · have h := xif_f c_ h
    refine xEvG_n xml xfetch 4 (y := (149, 18, [some (13, a0), some (0, a1), some (0, a2), none, none, none, none, none], [(1, 1), (1, 0), (1, a2)], (xwr M a0 0 0))) rfl trivial ?_
    refine xEvG_call xml xfetch (q := (some (0, fQ_in a2 0 1 (xwr M a0 0 0)), (xwr M a0 0 0))) rfl (hQ_in a2 0 1 (xwr M a0 0 0) _ rfl) ?_
    show xEv (149, 21, [some (13, a0), some (0, a1), some (0, a2), none, none, none, none, none], [(0, (fQ_in a2 0 1 (xwr M a0 0 0)))], (xwr M a0 0 0)) _
    refine xEvG_n xml xfetch 1 (y := (149, if (fQ_in a2 0 1 (xwr M a0 0 0)) = 0 then 24 else 27, [some (13, a0), some (0, a1), some (0, a2), none, none, none, none, none], [], (xwr M a0 0 0))) rfl trivial ?_
    refine xEvG_br xml xfetch (fun c_ => ?_) (fun c_ => ?_)
    · have h := xif_t c_ h
      refine xEvG_n xml xfetch 1 (y := (149, 26, [some (13, a0), some (0, a1), some (0, a2), none, none, none, none, none], [(0, (-2))], (xwr M a0 0 0))) rfl trivial ?_
      cases h
      exact xEvG_ret xml xfetch rfl
    · have h := xif_f c_ h
      refine xEvG_n xml xfetch 1 (y := (149, 28, [some (13, a0), some (0, a1), some (0, a2), none, none, none, none, none], [(13, a0)], (xwr M a0 0 0))) rfl trivial ?_
      obtain ⟨m3, e_, h⟩ := xB_t h
      refine xEvG_call xml xfetch (q := (none, m3)) rfl (hQ_lays a0 (xwr M a0 0 0) _ e_) ?_
      show xEv (149, 31, [some (13, a0), some (0, a1), some (0, a2), none, none, none, none, none], [], m3) _
      refine xEvG_n xml xfetch 2 (y := (149, 33, [some (13, a0), some (0, a1), some (0, a2), none, none, none, none, none], [(0, a1), (13, a0)], m3)) rfl trivial ?_
      obtain ⟨v4, e_, h⟩ := xB_t h
      refine xEvG_call xml xfetch (q := (some (0, v4), m3)) rfl (hQ_couldOf a0 a1 m3 _ e_) ?_
      show xEv (149, 36, [some (13, a0), some (0, a1), some (0, a2), none, none, none, none, none], [(0, v4)], m3) _
      refine xEvG_n xml xfetch 9 (y := (149, 49, [some (13, a0), some (0, a1), some (0, a2), some (0, v4), some (0, 0), some (0, (-1)), some (0, 0), some (0, 0)], [], m3)) rfl trivial ?_
      refine xEvG_mask xml xfetch [true, false, true, true, true, true, true, true] ?_
      exact hQ_longest_L49 20001 a0 a2 v4 0 (-1) 0 0 m3 _ h

def fQ_sizeOf_L4 : Nat → Int → Int → xM → Option Int
  | 0, _, _, _ => none
  | g + 1, x1, x2, M => if x2 = 0 then (some x1) else ((fQ_sizeOf_L4 g) (xw32 (x1 + 1)) (xand x2 (xw32 (x2 - 1))) M)
theorem hQ_sizeOf_L4 : ∀ (g : Nat) (x1 x2 : Int) (M : xM) (r : Int) (h : fQ_sizeOf_L4 g x1 x2 M = some r), xEv (127, 4, [none, some (0, x1), some (0, x2)], [], M) (some (0, r), M)
  | 0, _, _, _, _, h => by cases h
  | g + 1, x1, x2, M, r, h => by
    unfold fQ_sizeOf_L4 at h
    refine xEvG_n xml xfetch 2 (y := (127, if x2 = 0 then 20 else 8, [none, some (0, x1), some (0, x2)], [], M)) rfl trivial ?_
    refine xEvG_br xml xfetch (fun c_ => ?_) (fun c_ => ?_)
    · have h := xif_t c_ h
      refine xEvG_n xml xfetch 1 (y := (127, 21, [none, some (0, x1), some (0, x2)], [(0, x1)], M)) rfl trivial ?_
      cases h
      exact xEvG_ret xml xfetch rfl
    · have h := xif_f c_ h
      refine xEvG_n xml xfetch 8 (y := (127, 4, [none, some (0, (xw32 (x1 + 1))), some (0, (xand x2 (xw32 (x2 - 1))))], [], M)) rfl trivial ?_
      refine xEvG_mask xml xfetch [false, true, true] ?_
      exact (hQ_sizeOf_L4 g) (xw32 (x1 + 1)) (xand x2 (xw32 (x2 - 1))) M _ h
/-- ConsentDoorsModel.sizeOf(I)I -/
def fQ_sizeOf (a0 : Int) (M : xM) : Option Int := fQ_sizeOf_L4 20001 0 a0 M
theorem hQ_sizeOf (a0 : Int) (M : xM) (r : Int) (h : fQ_sizeOf a0 M = some r) : xEv (127, 0, [some (0, a0), none, none], [], M) (some (0, r), M) := by
  unfold fQ_sizeOf at h
  refine xEvG_n xml xfetch 4 (y := (127, 4, [some (0, a0), some (0, 0), some (0, a0)], [], M)) rfl trivial ?_
  refine xEvG_mask xml xfetch [false, true, true] ?_
  exact hQ_sizeOf_L4 20001 0 a0 M _ h

/-- ConsentDoorsModel.common(II)I -/
def fQ_common (a0 a1 a2 : Int) (M : xM) : Option (Int × xM) := if (fQ_isCell a0 a1 (xwr M a0 0 0)) = 0 then (some ((-2), (xwr M a0 0 0))) else (if (fQ_isCell a0 a2 (xwr M a0 0 0)) = 0 then (some ((-2), (xwr M a0 0 0))) else (if a1 = a2 then (some ((-2), (xwr M a0 0 0))) else (xB (fQ_lays a0 (xwr M a0 0 0)) (fun m3 => xB (fQ_couldOf a0 a1 m3) (fun v4 => xB (fQ_couldOf a0 a2 m3) (fun v5 => xB (fQ_sizeOf (xand v4 v5) m3) (fun v6 => some (v6, m3))))))))
theorem hQ_common (a0 a1 a2 : Int) (M : xM) (r : Int × xM) (h : fQ_common a0 a1 a2 M = some r) : xEv (150, 0, [some (13, a0), some (0, a1), some (0, a2)], [], M) (some (0, r.1), r.2) := by
  unfold fQ_common at h
  refine xEvG_n xml xfetch 6 (y := (150, 8, [some (13, a0), some (0, a1), some (0, a2)], [(1, a1), (13, a0)], (xwr M a0 0 0))) rfl trivial ?_
  refine xEvG_call xml xfetch (q := (some (0, fQ_isCell a0 a1 (xwr M a0 0 0)), (xwr M a0 0 0))) rfl (hQ_isCell a0 a1 (xwr M a0 0 0) _ rfl) ?_
  show xEv (150, 11, [some (13, a0), some (0, a1), some (0, a2)], [(0, (fQ_isCell a0 a1 (xwr M a0 0 0)))], (xwr M a0 0 0)) _
  refine xEvG_n xml xfetch 1 (y := (150, if (fQ_isCell a0 a1 (xwr M a0 0 0)) = 0 then 28 else 14, [some (13, a0), some (0, a1), some (0, a2)], [], (xwr M a0 0 0))) rfl trivial ?_
  refine xEvG_br xml xfetch (fun c_ => ?_) (fun c_ => ?_)
  · have h := xif_t c_ h
    refine xEvG_n xml xfetch 1 (y := (150, 30, [some (13, a0), some (0, a1), some (0, a2)], [(0, (-2))], (xwr M a0 0 0))) rfl trivial ?_
    cases h
    exact xEvG_ret xml xfetch rfl
  · have h := xif_f c_ h
    refine xEvG_n xml xfetch 3 (y := (150, 17, [some (13, a0), some (0, a1), some (0, a2)], [(1, a2), (13, a0)], (xwr M a0 0 0))) rfl trivial ?_
    refine xEvG_call xml xfetch (q := (some (0, fQ_isCell a0 a2 (xwr M a0 0 0)), (xwr M a0 0 0))) rfl (hQ_isCell a0 a2 (xwr M a0 0 0) _ rfl) ?_
    show xEv (150, 20, [some (13, a0), some (0, a1), some (0, a2)], [(0, (fQ_isCell a0 a2 (xwr M a0 0 0)))], (xwr M a0 0 0)) _
    refine xEvG_n xml xfetch 1 (y := (150, if (fQ_isCell a0 a2 (xwr M a0 0 0)) = 0 then 28 else 23, [some (13, a0), some (0, a1), some (0, a2)], [], (xwr M a0 0 0))) rfl trivial ?_
    refine xEvG_br xml xfetch (fun c_ => ?_) (fun c_ => ?_)
    · have h := xif_t c_ h
      refine xEvG_n xml xfetch 1 (y := (150, 30, [some (13, a0), some (0, a1), some (0, a2)], [(0, (-2))], (xwr M a0 0 0))) rfl trivial ?_
      cases h
      exact xEvG_ret xml xfetch rfl
    · have h := xif_f c_ h
      refine xEvG_n xml xfetch 3 (y := (150, if a1 = a2 then 28 else 31, [some (13, a0), some (0, a1), some (0, a2)], [], (xwr M a0 0 0))) rfl trivial ?_
      refine xEvG_br xml xfetch (fun c_ => ?_) (fun c_ => ?_)
      · have h := xif_t c_ h
        refine xEvG_n xml xfetch 1 (y := (150, 30, [some (13, a0), some (0, a1), some (0, a2)], [(0, (-2))], (xwr M a0 0 0))) rfl trivial ?_
        cases h
        exact xEvG_ret xml xfetch rfl
      · have h := xif_f c_ h
        refine xEvG_n xml xfetch 1 (y := (150, 32, [some (13, a0), some (0, a1), some (0, a2)], [(13, a0)], (xwr M a0 0 0))) rfl trivial ?_
        obtain ⟨m3, e_, h⟩ := xB_t h
        refine xEvG_call xml xfetch (q := (none, m3)) rfl (hQ_lays a0 (xwr M a0 0 0) _ e_) ?_
        show xEv (150, 35, [some (13, a0), some (0, a1), some (0, a2)], [], m3) _
        refine xEvG_n xml xfetch 2 (y := (150, 37, [some (13, a0), some (0, a1), some (0, a2)], [(0, a1), (13, a0)], m3)) rfl trivial ?_
        obtain ⟨v4, e_, h⟩ := xB_t h
        refine xEvG_call xml xfetch (q := (some (0, v4), m3)) rfl (hQ_couldOf a0 a1 m3 _ e_) ?_
        show xEv (150, 40, [some (13, a0), some (0, a1), some (0, a2)], [(0, v4)], m3) _
        refine xEvG_n xml xfetch 2 (y := (150, 42, [some (13, a0), some (0, a1), some (0, a2)], [(0, a2), (13, a0), (0, v4)], m3)) rfl trivial ?_
        obtain ⟨v5, e_, h⟩ := xB_t h
        refine xEvG_call xml xfetch (q := (some (0, v5), m3)) rfl (hQ_couldOf a0 a2 m3 _ e_) ?_
        show xEv (150, 45, [some (13, a0), some (0, a1), some (0, a2)], [(0, v5), (0, v4)], m3) _
        refine xEvG_n xml xfetch 1 (y := (150, 46, [some (13, a0), some (0, a1), some (0, a2)], [(0, (xand v4 v5))], m3)) rfl trivial ?_
        obtain ⟨v6, e_, h⟩ := xB_t h
        refine xEvG_call xml xfetch (q := (some (0, v6), m3)) rfl (hQ_sizeOf (xand v4 v5) m3 _ e_) ?_
        show xEv (150, 49, [some (13, a0), some (0, a1), some (0, a2)], [(0, v6)], m3) _
        cases h
        exact xEvG_ret xml xfetch rfl

/-- ConsentDoorsModel.plan(II)I -/
def fQ_plan (a0 a1 a2 : Int) (M : xM) : Option (Int × xM) := if (fQ_isHour a0 a1 (xwr M a0 0 0)) = 0 then (some ((-2), (xwr M a0 0 0))) else (if a2 = (-1) then (xA (0 ≤ a1 ∧ a1 < 120) (xA (0 ≤ a1 ∧ a1 < 120) (some (((xwr M a0 0 0) (a0 + 11) a1), (xwr (xwr M a0 0 0) (a0 + 11) a1 a2))))) else (if (fQ_isCell a0 a2 (xwr M a0 0 0)) = 0 then (some ((-2), (xwr M a0 0 0))) else (xA (0 ≤ a1 ∧ a1 < 120) (xA (0 ≤ a1 ∧ a1 < 120) (some (((xwr M a0 0 0) (a0 + 11) a1), (xwr (xwr M a0 0 0) (a0 + 11) a1 a2)))))))
theorem hQ_plan (a0 a1 a2 : Int) (M : xM) (r : Int × xM) (h : fQ_plan a0 a1 a2 M = some r) : xEv (151, 0, [some (13, a0), some (0, a1), some (0, a2), none], [], M) (some (0, r.1), r.2) := by
  unfold fQ_plan at h
  refine xEvG_n xml xfetch 6 (y := (151, 8, [some (13, a0), some (0, a1), some (0, a2), none], [(1, a1), (13, a0)], (xwr M a0 0 0))) rfl trivial ?_
  refine xEvG_call xml xfetch (q := (some (0, fQ_isHour a0 a1 (xwr M a0 0 0)), (xwr M a0 0 0))) rfl (hQ_isHour a0 a1 (xwr M a0 0 0) _ rfl) ?_
  show xEv (151, 11, [some (13, a0), some (0, a1), some (0, a2), none], [(0, (fQ_isHour a0 a1 (xwr M a0 0 0)))], (xwr M a0 0 0)) _
  refine xEvG_n xml xfetch 1 (y := (151, if (fQ_isHour a0 a1 (xwr M a0 0 0)) = 0 then 28 else 14, [some (13, a0), some (0, a1), some (0, a2), none], [], (xwr M a0 0 0))) rfl trivial ?_
  refine xEvG_br xml xfetch (fun c_ => ?_) (fun c_ => ?_)
  · have h := xif_t c_ h
    refine xEvG_n xml xfetch 1 (y := (151, 30, [some (13, a0), some (0, a1), some (0, a2), none], [(0, (-2))], (xwr M a0 0 0))) rfl trivial ?_
    cases h
    exact xEvG_ret xml xfetch rfl
  · have h := xif_f c_ h
    refine xEvG_n xml xfetch 3 (y := (151, if a2 = (-1) then 31 else 19, [some (13, a0), some (0, a1), some (0, a2), none], [], (xwr M a0 0 0))) rfl trivial ?_
    refine xEvG_br xml xfetch (fun c_ => ?_) (fun c_ => ?_)
    · have h := xif_t c_ h
      have a0_ := (xA_t h).1
      have h := (xA_t h).2
      have a1_ := (xA_t h).1
      have h := (xA_t h).2
      refine xEvG_n xml xfetch 11 (y := (151, 46, [some (13, a0), some (0, a1), some (0, a2), some (0, ((xwr M a0 0 0) (a0 + 11) a1))], [(0, ((xwr M a0 0 0) (a0 + 11) a1))], (xwr (xwr M a0 0 0) (a0 + 11) a1 a2))) rfl ⟨a0_, a1_, trivial⟩ ?_
      cases h
      exact xEvG_ret xml xfetch rfl
    · have h := xif_f c_ h
      refine xEvG_n xml xfetch 3 (y := (151, 22, [some (13, a0), some (0, a1), some (0, a2), none], [(1, a2), (13, a0)], (xwr M a0 0 0))) rfl trivial ?_
      refine xEvG_call xml xfetch (q := (some (0, fQ_isCell a0 a2 (xwr M a0 0 0)), (xwr M a0 0 0))) rfl (hQ_isCell a0 a2 (xwr M a0 0 0) _ rfl) ?_
      show xEv (151, 25, [some (13, a0), some (0, a1), some (0, a2), none], [(0, (fQ_isCell a0 a2 (xwr M a0 0 0)))], (xwr M a0 0 0)) _
      refine xEvG_n xml xfetch 1 (y := (151, if (fQ_isCell a0 a2 (xwr M a0 0 0)) = 0 then 28 else 31, [some (13, a0), some (0, a1), some (0, a2), none], [], (xwr M a0 0 0))) rfl trivial ?_
      refine xEvG_br xml xfetch (fun c_ => ?_) (fun c_ => ?_)
      · have h := xif_t c_ h
        refine xEvG_n xml xfetch 1 (y := (151, 30, [some (13, a0), some (0, a1), some (0, a2), none], [(0, (-2))], (xwr M a0 0 0))) rfl trivial ?_
        cases h
        exact xEvG_ret xml xfetch rfl
      · have h := xif_f c_ h
        have a0_ := (xA_t h).1
        have h := (xA_t h).2
        have a1_ := (xA_t h).1
        have h := (xA_t h).2
        refine xEvG_n xml xfetch 11 (y := (151, 46, [some (13, a0), some (0, a1), some (0, a2), some (0, ((xwr M a0 0 0) (a0 + 11) a1))], [(0, ((xwr M a0 0 0) (a0 + 11) a1))], (xwr (xwr M a0 0 0) (a0 + 11) a1 a2))) rfl ⟨a0_, a1_, trivial⟩ ?_
        cases h
        exact xEvG_ret xml xfetch rfl

def fQ_goes_L46 (k_4 : Int → Int → Int → xM → Option xM) (x0 x1 x2 x3 y0 y1 y2 : Int) (M : xM) : Option xM := xA (0 ≤ y1 ∧ y1 < 24) (xA (0 ≤ x2 ∧ x2 < 24) (if ((xwr M y2 y1 y0) (x0 + 15) x2) = (-1) then (xA (0 ≤ x2 ∧ x2 < 24) (k_4 x0 x1 (xw32 (x2 + 1)) (xwr (xwr M y2 y1 y0) (x0 + 16) x2 x1))) else (xA (0 ≤ x2 ∧ x2 < 24) (k_4 x0 (xor32 x1 (xshl 1 x3)) (xw32 (x2 + 1)) (xwr (xwr M y2 y1 y0) (x0 + 16) x2 (xor32 x1 (xshl 1 x3)))))))
theorem hQ_goes_L46 (k_4 : Int → Int → Int → xM → Option xM) (hk_4 : ∀ (x0 x1 x2 : Int) (M : xM) (r : xM), k_4 x0 x1 x2 M = some r → xEv (152, 4, [some (13, x0), some (0, x1), some (0, x2), none], [], M) (none, r)) (x0 x1 x2 x3 y0 y1 y2 : Int) (M : xM) (r : xM) (h : fQ_goes_L46 k_4 x0 x1 x2 x3 y0 y1 y2 M = some r) : xEv (152, 46, [some (13, x0), some (0, x1), some (0, x2), some (0, x3)], [(0, y0), (0, y1), (25, y2)], M) (none, r) := by
  unfold fQ_goes_L46 at h
  have a0_ := (xA_t h).1
  have h := (xA_t h).2
  have a1_ := (xA_t h).1
  have h := (xA_t h).2
  refine xEvG_n xml xfetch 7 (y := (152, if ((xwr M y2 y1 y0) (x0 + 15) x2) = (-1) then 63 else 57, [some (13, x0), some (0, x1), some (0, x2), some (0, x3)], [], (xwr M y2 y1 y0))) rfl ⟨a0_, a1_, trivial⟩ ?_
  refine xEvG_br xml xfetch (fun c_ => ?_) (fun c_ => ?_)
  · have h := xif_t c_ h
    have a0_ := (xA_t h).1
    have h := (xA_t h).2
    refine xEvG_n xml xfetch 7 (y := (152, 4, [some (13, x0), some (0, x1), some (0, (xw32 (x2 + 1))), some (0, x3)], [], (xwr (xwr M y2 y1 y0) (x0 + 16) x2 x1))) rfl ⟨a0_, trivial⟩ ?_
    refine xEvG_mask xml xfetch [true, true, true, false] ?_
    exact hk_4 x0 x1 (xw32 (x2 + 1)) (xwr (xwr M y2 y1 y0) (x0 + 16) x2 x1) _ h
  · have h := xif_f c_ h
    have a0_ := (xA_t h).1
    have h := (xA_t h).2
    refine xEvG_n xml xfetch 13 (y := (152, 4, [some (13, x0), some (0, (xor32 x1 (xshl 1 x3))), some (0, (xw32 (x2 + 1))), some (0, x3)], [], (xwr (xwr M y2 y1 y0) (x0 + 16) x2 (xor32 x1 (xshl 1 x3))))) rfl ⟨a0_, trivial⟩ ?_
    refine xEvG_mask xml xfetch [true, true, true, false] ?_
    exact hk_4 x0 (xor32 x1 (xshl 1 x3)) (xw32 (x2 + 1)) (xwr (xwr M y2 y1 y0) (x0 + 16) x2 (xor32 x1 (xshl 1 x3))) _ h
def fQ_goes_L4 : Nat → Int → Int → Int → xM → Option xM
  | 0, _, _, _, _ => none
  | g + 1, x0, x1, x2, M => if x2 < (M (x0 + 7) 1) then (xA (0 ≤ x2 ∧ x2 < 120) (if (M (x0 + 11) x2) = (-1) then (fQ_goes_L46 (fQ_goes_L4 g) x0 x1 x2 (M (x0 + 11) x2) (-1) x2 (x0 + 15) M) else (xB (fQ_opensIf x0 (M (x0 + 11) x2) x2 x1 M) (fun v1 => if v1 = 0 then (fQ_goes_L46 (fQ_goes_L4 g) x0 x1 x2 (M (x0 + 11) x2) (-1) x2 (x0 + 15) M) else (fQ_goes_L46 (fQ_goes_L4 g) x0 x1 x2 (M (x0 + 11) x2) (M (x0 + 11) x2) x2 (x0 + 15) M))))) else (some M)
theorem hQ_goes_L4 : ∀ (g : Nat) (x0 x1 x2 : Int) (M : xM) (r : xM) (h : fQ_goes_L4 g x0 x1 x2 M = some r), xEv (152, 4, [some (13, x0), some (0, x1), some (0, x2), none], [], M) (none, r)
  | 0, _, _, _, _, _, h => by cases h
  | g + 1, x0, x1, x2, M, r, h => by
    unfold fQ_goes_L4 at h
    refine xEvG_n xml xfetch 6 (y := (152, if x2 < (M (x0 + 7) 1) then 14 else 76, [some (13, x0), some (0, x1), some (0, x2), none], [], M)) rfl ⟨by decide, trivial⟩ ?_
    refine xEvG_br xml xfetch (fun c_ => ?_) (fun c_ => ?_)
    · have h := xif_t c_ h
      have a0_ := (xA_t h).1
      have h := (xA_t h).2
      refine xEvG_n xml xfetch 11 (y := (152, if (M (x0 + 11) x2) = (-1) then 45 else 31, [some (13, x0), some (0, x1), some (0, x2), some (0, (M (x0 + 11) x2))], [(0, x2), (25, (x0 + 15))], M)) rfl ⟨a0_, trivial⟩ ?_
      refine xEvG_br xml xfetch (fun c_ => ?_) (fun c_ => ?_)
      · have h := xif_t c_ h
        refine xEvG_n xml xfetch 1 (y := (152, 46, [some (13, x0), some (0, x1), some (0, x2), some (0, (M (x0 + 11) x2))], [(0, (-1)), (0, x2), (25, (x0 + 15))], M)) rfl trivial ?_
        refine xEvG_mask xml xfetch [true, true, true, true] ?_
        exact hQ_goes_L46 (fQ_goes_L4 g) (hQ_goes_L4 g) x0 x1 x2 (M (x0 + 11) x2) (-1) x2 (x0 + 15) M _ h
      · have h := xif_f c_ h
        refine xEvG_n xml xfetch 4 (y := (152, 35, [some (13, x0), some (0, x1), some (0, x2), some (0, (M (x0 + 11) x2))], [(0, x1), (0, x2), (0, (M (x0 + 11) x2)), (13, x0), (0, x2), (25, (x0 + 15))], M)) rfl trivial ?_
        obtain ⟨v1, e_, h⟩ := xB_t h
        refine xEvG_call xml xfetch (q := (some (0, v1), M)) rfl (hQ_opensIf x0 (M (x0 + 11) x2) x2 x1 M _ e_) ?_
        show xEv (152, 38, [some (13, x0), some (0, x1), some (0, x2), some (0, (M (x0 + 11) x2))], [(0, v1), (0, x2), (25, (x0 + 15))], M) _
        refine xEvG_n xml xfetch 1 (y := (152, if v1 = 0 then 45 else 41, [some (13, x0), some (0, x1), some (0, x2), some (0, (M (x0 + 11) x2))], [(0, x2), (25, (x0 + 15))], M)) rfl trivial ?_
        refine xEvG_br xml xfetch (fun c_ => ?_) (fun c_ => ?_)
        · have h := xif_t c_ h
          refine xEvG_n xml xfetch 1 (y := (152, 46, [some (13, x0), some (0, x1), some (0, x2), some (0, (M (x0 + 11) x2))], [(0, (-1)), (0, x2), (25, (x0 + 15))], M)) rfl trivial ?_
          refine xEvG_mask xml xfetch [true, true, true, true] ?_
          exact hQ_goes_L46 (fQ_goes_L4 g) (hQ_goes_L4 g) x0 x1 x2 (M (x0 + 11) x2) (-1) x2 (x0 + 15) M _ h
        · have h := xif_f c_ h
          refine xEvG_n xml xfetch 2 (y := (152, 46, [some (13, x0), some (0, x1), some (0, x2), some (0, (M (x0 + 11) x2))], [(0, (M (x0 + 11) x2)), (0, x2), (25, (x0 + 15))], M)) rfl trivial ?_
          refine xEvG_mask xml xfetch [true, true, true, true] ?_
          exact hQ_goes_L46 (fQ_goes_L4 g) (hQ_goes_L4 g) x0 x1 x2 (M (x0 + 11) x2) (M (x0 + 11) x2) x2 (x0 + 15) M _ h
    · have h := xif_f c_ h
      cases h
      exact xEvG_ret xml xfetch rfl
/-- ConsentDoorsModel.goes()V -/
def fQ_goes (a0 : Int) (M : xM) : Option xM := fQ_goes_L4 20001 a0 0 0 M
theorem hQ_goes (a0 : Int) (M : xM) (r : xM) (h : fQ_goes a0 M = some r) : xEv (152, 0, [some (13, a0), none, none, none], [], M) (none, r) := by
  unfold fQ_goes at h
  refine xEvG_n xml xfetch 4 (y := (152, 4, [some (13, a0), some (0, 0), some (0, 0), none], [], M)) rfl trivial ?_
  refine xEvG_mask xml xfetch [true, true, true, false] ?_
  exact hQ_goes_L4 20001 a0 0 0 M _ h

/-- ConsentDoorsModel.asTold()V -/
def fQ_asTold (a0 : Int) (M : xM) : Option xM := xB (fQ_lays a0 M) (fun m1 => xB (fQ_goes a0 m1) (fun m2 => some m2))
theorem hQ_asTold (a0 : Int) (M : xM) (r : xM) (h : fQ_asTold a0 M = some r) : xEv (154, 0, [some (13, a0)], [], M) (none, r) := by
  unfold fQ_asTold at h
  refine xEvG_n xml xfetch 1 (y := (154, 1, [some (13, a0)], [(13, a0)], M)) rfl trivial ?_
  obtain ⟨m1, e_, h⟩ := xB_t h
  refine xEvG_call xml xfetch (q := (none, m1)) rfl (hQ_lays a0 M _ e_) ?_
  show xEv (154, 4, [some (13, a0)], [], m1) _
  refine xEvG_n xml xfetch 1 (y := (154, 5, [some (13, a0)], [(13, a0)], m1)) rfl trivial ?_
  obtain ⟨m2, e_, h⟩ := xB_t h
  refine xEvG_call xml xfetch (q := (none, m2)) rfl (hQ_goes a0 m1 _ e_) ?_
  show xEv (154, 8, [some (13, a0)], [], m2) _
  cases h
  exact xEvG_ret xml xfetch rfl

/-- ConsentDoorsModel.opens(I)I -/
def fQ_opens (a0 a1 : Int) (M : xM) : Option (Int × xM) := if (fQ_isHour a0 a1 (xwr M a0 0 0)) = 0 then (some ((-2), (xwr M a0 0 0))) else (xB (fQ_asTold a0 (xwr M a0 0 0)) (fun m2 => xA (0 ≤ a1 ∧ a1 < 24) (some ((m2 (a0 + 15) a1), m2))))
theorem hQ_opens (a0 a1 : Int) (M : xM) (r : Int × xM) (h : fQ_opens a0 a1 M = some r) : xEv (155, 0, [some (13, a0), some (0, a1)], [], M) (some (0, r.1), r.2) := by
  unfold fQ_opens at h
  refine xEvG_n xml xfetch 6 (y := (155, 8, [some (13, a0), some (0, a1)], [(1, a1), (13, a0)], (xwr M a0 0 0))) rfl trivial ?_
  refine xEvG_call xml xfetch (q := (some (0, fQ_isHour a0 a1 (xwr M a0 0 0)), (xwr M a0 0 0))) rfl (hQ_isHour a0 a1 (xwr M a0 0 0) _ rfl) ?_
  show xEv (155, 11, [some (13, a0), some (0, a1)], [(0, (fQ_isHour a0 a1 (xwr M a0 0 0)))], (xwr M a0 0 0)) _
  refine xEvG_n xml xfetch 1 (y := (155, if (fQ_isHour a0 a1 (xwr M a0 0 0)) = 0 then 14 else 17, [some (13, a0), some (0, a1)], [], (xwr M a0 0 0))) rfl trivial ?_
  refine xEvG_br xml xfetch (fun c_ => ?_) (fun c_ => ?_)
  · have h := xif_t c_ h
    refine xEvG_n xml xfetch 1 (y := (155, 16, [some (13, a0), some (0, a1)], [(0, (-2))], (xwr M a0 0 0))) rfl trivial ?_
    cases h
    exact xEvG_ret xml xfetch rfl
  · have h := xif_f c_ h
    refine xEvG_n xml xfetch 1 (y := (155, 18, [some (13, a0), some (0, a1)], [(13, a0)], (xwr M a0 0 0))) rfl trivial ?_
    obtain ⟨m2, e_, h⟩ := xB_t h
    refine xEvG_call xml xfetch (q := (none, m2)) rfl (hQ_asTold a0 (xwr M a0 0 0) _ e_) ?_
    show xEv (155, 21, [some (13, a0), some (0, a1)], [], m2) _
    have a0_ := (xA_t h).1
    have h := (xA_t h).2
    refine xEvG_n xml xfetch 4 (y := (155, 27, [some (13, a0), some (0, a1)], [(0, (m2 (a0 + 15) a1))], m2)) rfl ⟨a0_, trivial⟩ ?_
    cases h
    exact xEvG_ret xml xfetch rfl

/-- ConsentDoorsModel.outAhead(I)I -/
def fQ_outAhead (a0 a1 : Int) (M : xM) : Option Int := if a1 = 0 then (some 0) else (xA (0 ≤ (xw32 (a1 - 1)) ∧ (xw32 (a1 - 1)) < 24) (some (M (a0 + 16) (xw32 (a1 - 1)))))
theorem hQ_outAhead (a0 a1 : Int) (M : xM) (r : Int) (h : fQ_outAhead a0 a1 M = some r) : xEv (153, 0, [some (13, a0), some (0, a1)], [], M) (some (0, r), M) := by
  unfold fQ_outAhead at h
  refine xEvG_n xml xfetch 2 (y := (153, if a1 = 0 then 4 else 8, [some (13, a0), some (0, a1)], [], M)) rfl trivial ?_
  refine xEvG_br xml xfetch (fun c_ => ?_) (fun c_ => ?_)
  · have h := xif_t c_ h
    refine xEvG_n xml xfetch 2 (y := (153, 16, [some (13, a0), some (0, a1)], [(0, 0)], M)) rfl trivial ?_
    cases h
    exact xEvG_ret xml xfetch rfl
  · have h := xif_f c_ h
    have a0_ := (xA_t h).1
    have h := (xA_t h).2
    refine xEvG_n xml xfetch 6 (y := (153, 16, [some (13, a0), some (0, a1)], [(0, (M (a0 + 16) (xw32 (a1 - 1))))], M)) rfl ⟨a0_, trivial⟩ ?_
    cases h
    exact xEvG_ret xml xfetch rfl

/-- ConsentDoorsModel.why(I)I -/
def fQ_why (a0 a1 : Int) (M : xM) : Option (Int × xM) := if (fQ_isHour a0 a1 (xwr M a0 0 0)) = 0 then (some ((-2), (xwr M a0 0 0))) else (xB (fQ_asTold a0 (xwr M a0 0 0)) (fun m2 => xA (0 ≤ a1 ∧ a1 < 120) (if (m2 (a0 + 11) a1) = (-1) then (some (1, m2)) else (xB (fQ_outAhead a0 a1 m2) (fun v3 => if (fQ_isBit v3 (m2 (a0 + 11) a1) m2) = 0 then (xB (fQ_outAhead a0 a1 m2) (fun v5 => xB (fQ_turns a0 (m2 (a0 + 11) a1) 0 a1 v5 m2) (fun v6 => if v6 = 0 then (some (3, m2)) else (xB (fQ_outAhead a0 a1 m2) (fun v7 => xB (fQ_turns a0 (m2 (a0 + 11) a1) 1 a1 v7 m2) (fun v8 => some ((if v8 = 0 then 4 else 0 : Int), m2))))))) else (some (2, m2)))))))
theorem hQ_why (a0 a1 : Int) (M : xM) (r : Int × xM) (h : fQ_why a0 a1 M = some r) : xEv (156, 0, [some (13, a0), some (0, a1), none], [], M) (some (0, r.1), r.2) := by
  unfold fQ_why at h
  refine xEvG_n xml xfetch 6 (y := (156, 8, [some (13, a0), some (0, a1), none], [(1, a1), (13, a0)], (xwr M a0 0 0))) rfl trivial ?_
  refine xEvG_call xml xfetch (q := (some (0, fQ_isHour a0 a1 (xwr M a0 0 0)), (xwr M a0 0 0))) rfl (hQ_isHour a0 a1 (xwr M a0 0 0) _ rfl) ?_
  show xEv (156, 11, [some (13, a0), some (0, a1), none], [(0, (fQ_isHour a0 a1 (xwr M a0 0 0)))], (xwr M a0 0 0)) _
  refine xEvG_n xml xfetch 1 (y := (156, if (fQ_isHour a0 a1 (xwr M a0 0 0)) = 0 then 14 else 17, [some (13, a0), some (0, a1), none], [], (xwr M a0 0 0))) rfl trivial ?_
  refine xEvG_br xml xfetch (fun c_ => ?_) (fun c_ => ?_)
  · have h := xif_t c_ h
    refine xEvG_n xml xfetch 1 (y := (156, 16, [some (13, a0), some (0, a1), none], [(0, (-2))], (xwr M a0 0 0))) rfl trivial ?_
    cases h
    exact xEvG_ret xml xfetch rfl
  · have h := xif_f c_ h
    refine xEvG_n xml xfetch 1 (y := (156, 18, [some (13, a0), some (0, a1), none], [(13, a0)], (xwr M a0 0 0))) rfl trivial ?_
    obtain ⟨m2, e_, h⟩ := xB_t h
    refine xEvG_call xml xfetch (q := (none, m2)) rfl (hQ_asTold a0 (xwr M a0 0 0) _ e_) ?_
    show xEv (156, 21, [some (13, a0), some (0, a1), none], [], m2) _
    have a0_ := (xA_t h).1
    have h := (xA_t h).2
    refine xEvG_n xml xfetch 8 (y := (156, if (m2 (a0 + 11) a1) = (-1) then 33 else 35, [some (13, a0), some (0, a1), some (0, (m2 (a0 + 11) a1))], [], m2)) rfl ⟨a0_, trivial⟩ ?_
    refine xEvG_br xml xfetch (fun c_ => ?_) (fun c_ => ?_)
    · have h := xif_t c_ h
      refine xEvG_n xml xfetch 1 (y := (156, 34, [some (13, a0), some (0, a1), some (0, (m2 (a0 + 11) a1))], [(0, 1)], m2)) rfl trivial ?_
      cases h
      exact xEvG_ret xml xfetch rfl
    · have h := xif_f c_ h
      refine xEvG_n xml xfetch 2 (y := (156, 37, [some (13, a0), some (0, a1), some (0, (m2 (a0 + 11) a1))], [(0, a1), (13, a0)], m2)) rfl trivial ?_
      obtain ⟨v3, e_, h⟩ := xB_t h
      refine xEvG_call xml xfetch (q := (some (0, v3), m2)) rfl (hQ_outAhead a0 a1 m2 _ e_) ?_
      show xEv (156, 40, [some (13, a0), some (0, a1), some (0, (m2 (a0 + 11) a1))], [(0, v3)], m2) _
      refine xEvG_n xml xfetch 1 (y := (156, 41, [some (13, a0), some (0, a1), some (0, (m2 (a0 + 11) a1))], [(0, (m2 (a0 + 11) a1)), (0, v3)], m2)) rfl trivial ?_
      refine xEvG_call xml xfetch (q := (some (0, fQ_isBit v3 (m2 (a0 + 11) a1) m2), m2)) rfl (hQ_isBit v3 (m2 (a0 + 11) a1) m2 _ rfl) ?_
      show xEv (156, 44, [some (13, a0), some (0, a1), some (0, (m2 (a0 + 11) a1))], [(0, (fQ_isBit v3 (m2 (a0 + 11) a1) m2))], m2) _
      refine xEvG_n xml xfetch 1 (y := (156, if (fQ_isBit v3 (m2 (a0 + 11) a1) m2) = 0 then 49 else 47, [some (13, a0), some (0, a1), some (0, (m2 (a0 + 11) a1))], [], m2)) rfl trivial ?_
      refine xEvG_br xml xfetch (fun c_ => ?_) (fun c_ => ?_)
      · have h := xif_t c_ h
        refine xEvG_n xml xfetch 6 (y := (156, 55, [some (13, a0), some (0, a1), some (0, (m2 (a0 + 11) a1))], [(0, a1), (13, a0), (0, a1), (0, 0), (0, (m2 (a0 + 11) a1)), (13, a0)], m2)) rfl trivial ?_
        obtain ⟨v5, e_, h⟩ := xB_t h
        refine xEvG_call xml xfetch (q := (some (0, v5), m2)) rfl (hQ_outAhead a0 a1 m2 _ e_) ?_
        show xEv (156, 58, [some (13, a0), some (0, a1), some (0, (m2 (a0 + 11) a1))], [(0, v5), (0, a1), (0, 0), (0, (m2 (a0 + 11) a1)), (13, a0)], m2) _
        obtain ⟨v6, e_, h⟩ := xB_t h
        refine xEvG_call xml xfetch (q := (some (0, v6), m2)) rfl (hQ_turns a0 (m2 (a0 + 11) a1) 0 a1 v5 m2 _ e_) ?_
        show xEv (156, 61, [some (13, a0), some (0, a1), some (0, (m2 (a0 + 11) a1))], [(0, v6)], m2) _
        refine xEvG_n xml xfetch 1 (y := (156, if v6 = 0 then 64 else 68, [some (13, a0), some (0, a1), some (0, (m2 (a0 + 11) a1))], [], m2)) rfl trivial ?_
        refine xEvG_br xml xfetch (fun c_ => ?_) (fun c_ => ?_)
        · have h := xif_t c_ h
          refine xEvG_n xml xfetch 2 (y := (156, 88, [some (13, a0), some (0, a1), some (0, (m2 (a0 + 11) a1))], [(0, 3)], m2)) rfl trivial ?_
          cases h
          exact xEvG_ret xml xfetch rfl
        · have h := xif_f c_ h
          refine xEvG_n xml xfetch 6 (y := (156, 74, [some (13, a0), some (0, a1), some (0, (m2 (a0 + 11) a1))], [(0, a1), (13, a0), (0, a1), (0, 1), (0, (m2 (a0 + 11) a1)), (13, a0)], m2)) rfl trivial ?_
          obtain ⟨v7, e_, h⟩ := xB_t h
          refine xEvG_call xml xfetch (q := (some (0, v7), m2)) rfl (hQ_outAhead a0 a1 m2 _ e_) ?_
          show xEv (156, 77, [some (13, a0), some (0, a1), some (0, (m2 (a0 + 11) a1))], [(0, v7), (0, a1), (0, 1), (0, (m2 (a0 + 11) a1)), (13, a0)], m2) _
          obtain ⟨v8, e_, h⟩ := xB_t h
          refine xEvG_call xml xfetch (q := (some (0, v8), m2)) rfl (hQ_turns a0 (m2 (a0 + 11) a1) 1 a1 v7 m2 _ e_) ?_
          show xEv (156, 80, [some (13, a0), some (0, a1), some (0, (m2 (a0 + 11) a1))], [(0, v8)], m2) _
          have key_ : xEv (156, 88, [some (13, a0), some (0, a1), some (0, (m2 (a0 + 11) a1))], [(0, (if v8 = 0 then 4 else 0 : Int))], m2) (some (0, r.1), r.2) := by
            cases h
            exact xEvG_ret xml xfetch rfl
          refine xEvG_n xml xfetch 1 (y := (156, if v8 = 0 then 83 else 87, [some (13, a0), some (0, a1), some (0, (m2 (a0 + 11) a1))], [], m2)) rfl trivial ?_
          refine xEvG_br xml xfetch (fun c10_ => ?_) (fun c10_ => ?_)
          · refine xEvG_n xml xfetch 2 (y := (156, 88, [some (13, a0), some (0, a1), some (0, (m2 (a0 + 11) a1))], [(0, 4)], m2)) rfl trivial ?_
            try simp only [if_pos c10_] at key_
            try simp only [if_pos c10_]
            exact key_
          · refine xEvG_n xml xfetch 1 (y := (156, 88, [some (13, a0), some (0, a1), some (0, (m2 (a0 + 11) a1))], [(0, 0)], m2)) rfl trivial ?_
            try simp only [if_neg c10_] at key_
            try simp only [if_neg c10_]
            exact key_
      · have h := xif_f c_ h
        refine xEvG_n xml xfetch 1 (y := (156, 48, [some (13, a0), some (0, a1), some (0, (m2 (a0 + 11) a1))], [(0, 2)], m2)) rfl trivial ?_
        cases h
        exact xEvG_ret xml xfetch rfl

/-- ConsentDoorsModel.because(II)I -/
def fQ_because (a0 a1 a2 : Int) (M : xM) : Option (Int × xM) := if (fQ_isHour a0 a1 (xwr M a0 0 0)) = 0 then (some ((-2), (xwr M a0 0 0))) else (if (fQ_isSide a2 (xwr M a0 0 0)) = 0 then (some ((-2), (xwr M a0 0 0))) else (xB (fQ_asTold a0 (xwr M a0 0 0)) (fun m3 => xA (0 ≤ a1 ∧ a1 < 120) (if (m3 (a0 + 11) a1) = (-1) then (some ((-1), m3)) else (xB (fQ_outAhead a0 a1 m3) (fun v4 => if (fQ_isBit v4 (m3 (a0 + 11) a1) m3) = 0 then (xB (fQ_besideIn a0 0 (m3 (a0 + 11) a1) a2 m3) (fun v6 => if v6 = (-1) then (some (1, m3)) else (xB (fQ_outAhead a0 a1 m3) (fun v7 => if (fQ_isBit v7 v6 m3) = 0 then (xB (fQ_reasonOf a0 v6 (xw32 (1 - a2)) a1 m3) (fun v9 => some (v9, m3))) else (xB (fQ_isLoyal a0 v6 m3) (fun v10 => if v10 = 0 then (some (2, m3)) else (xB (fQ_reasonOf a0 v6 (xw32 (1 - a2)) a1 m3) (fun v11 => some (v11, m3))))))))) else (some ((-1), m3))))))))
theorem hQ_because (a0 a1 a2 : Int) (M : xM) (r : Int × xM) (h : fQ_because a0 a1 a2 M = some r) : xEv (157, 0, [some (13, a0), some (0, a1), some (0, a2), none, none], [], M) (some (0, r.1), r.2) := by
  unfold fQ_because at h
  refine xEvG_n xml xfetch 6 (y := (157, 8, [some (13, a0), some (0, a1), some (0, a2), none, none], [(1, a1), (13, a0)], (xwr M a0 0 0))) rfl trivial ?_
  refine xEvG_call xml xfetch (q := (some (0, fQ_isHour a0 a1 (xwr M a0 0 0)), (xwr M a0 0 0))) rfl (hQ_isHour a0 a1 (xwr M a0 0 0) _ rfl) ?_
  show xEv (157, 11, [some (13, a0), some (0, a1), some (0, a2), none, none], [(0, (fQ_isHour a0 a1 (xwr M a0 0 0)))], (xwr M a0 0 0)) _
  refine xEvG_n xml xfetch 1 (y := (157, if (fQ_isHour a0 a1 (xwr M a0 0 0)) = 0 then 22 else 14, [some (13, a0), some (0, a1), some (0, a2), none, none], [], (xwr M a0 0 0))) rfl trivial ?_
  refine xEvG_br xml xfetch (fun c_ => ?_) (fun c_ => ?_)
  · have h := xif_t c_ h
    refine xEvG_n xml xfetch 1 (y := (157, 24, [some (13, a0), some (0, a1), some (0, a2), none, none], [(0, (-2))], (xwr M a0 0 0))) rfl trivial ?_
    cases h
    exact xEvG_ret xml xfetch rfl
  · have h := xif_f c_ h
    refine xEvG_n xml xfetch 2 (y := (157, 16, [some (13, a0), some (0, a1), some (0, a2), none, none], [(1, a2)], (xwr M a0 0 0))) rfl trivial ?_
    refine xEvG_call xml xfetch (q := (some (0, fQ_isSide a2 (xwr M a0 0 0)), (xwr M a0 0 0))) rfl (hQ_isSide a2 (xwr M a0 0 0) _ rfl) ?_
    show xEv (157, 19, [some (13, a0), some (0, a1), some (0, a2), none, none], [(0, (fQ_isSide a2 (xwr M a0 0 0)))], (xwr M a0 0 0)) _
    refine xEvG_n xml xfetch 1 (y := (157, if (fQ_isSide a2 (xwr M a0 0 0)) = 0 then 22 else 25, [some (13, a0), some (0, a1), some (0, a2), none, none], [], (xwr M a0 0 0))) rfl trivial ?_
    refine xEvG_br xml xfetch (fun c_ => ?_) (fun c_ => ?_)
    · have h := xif_t c_ h
      refine xEvG_n xml xfetch 1 (y := (157, 24, [some (13, a0), some (0, a1), some (0, a2), none, none], [(0, (-2))], (xwr M a0 0 0))) rfl trivial ?_
      cases h
      exact xEvG_ret xml xfetch rfl
    · have h := xif_f c_ h
      refine xEvG_n xml xfetch 1 (y := (157, 26, [some (13, a0), some (0, a1), some (0, a2), none, none], [(13, a0)], (xwr M a0 0 0))) rfl trivial ?_
      obtain ⟨m3, e_, h⟩ := xB_t h
      refine xEvG_call xml xfetch (q := (none, m3)) rfl (hQ_asTold a0 (xwr M a0 0 0) _ e_) ?_
      show xEv (157, 29, [some (13, a0), some (0, a1), some (0, a2), none, none], [], m3) _
      have a0_ := (xA_t h).1
      have h := (xA_t h).2
      refine xEvG_n xml xfetch 8 (y := (157, if (m3 (a0 + 11) a1) = (-1) then 53 else 41, [some (13, a0), some (0, a1), some (0, a2), some (0, (m3 (a0 + 11) a1)), none], [], m3)) rfl ⟨a0_, trivial⟩ ?_
      refine xEvG_br xml xfetch (fun c_ => ?_) (fun c_ => ?_)
      · have h := xif_t c_ h
        refine xEvG_n xml xfetch 1 (y := (157, 54, [some (13, a0), some (0, a1), some (0, a2), some (0, (m3 (a0 + 11) a1)), none], [(0, (-1))], m3)) rfl trivial ?_
        cases h
        exact xEvG_ret xml xfetch rfl
      · have h := xif_f c_ h
        refine xEvG_n xml xfetch 2 (y := (157, 43, [some (13, a0), some (0, a1), some (0, a2), some (0, (m3 (a0 + 11) a1)), none], [(0, a1), (13, a0)], m3)) rfl trivial ?_
        obtain ⟨v4, e_, h⟩ := xB_t h
        refine xEvG_call xml xfetch (q := (some (0, v4), m3)) rfl (hQ_outAhead a0 a1 m3 _ e_) ?_
        show xEv (157, 46, [some (13, a0), some (0, a1), some (0, a2), some (0, (m3 (a0 + 11) a1)), none], [(0, v4)], m3) _
        refine xEvG_n xml xfetch 1 (y := (157, 47, [some (13, a0), some (0, a1), some (0, a2), some (0, (m3 (a0 + 11) a1)), none], [(0, (m3 (a0 + 11) a1)), (0, v4)], m3)) rfl trivial ?_
        refine xEvG_call xml xfetch (q := (some (0, fQ_isBit v4 (m3 (a0 + 11) a1) m3), m3)) rfl (hQ_isBit v4 (m3 (a0 + 11) a1) m3 _ rfl) ?_
        show xEv (157, 50, [some (13, a0), some (0, a1), some (0, a2), some (0, (m3 (a0 + 11) a1)), none], [(0, (fQ_isBit v4 (m3 (a0 + 11) a1) m3))], m3) _
        refine xEvG_n xml xfetch 1 (y := (157, if (fQ_isBit v4 (m3 (a0 + 11) a1) m3) = 0 then 55 else 53, [some (13, a0), some (0, a1), some (0, a2), some (0, (m3 (a0 + 11) a1)), none], [], m3)) rfl trivial ?_
        refine xEvG_br xml xfetch (fun c_ => ?_) (fun c_ => ?_)
        · have h := xif_t c_ h
          refine xEvG_n xml xfetch 4 (y := (157, 59, [some (13, a0), some (0, a1), some (0, a2), some (0, (m3 (a0 + 11) a1)), none], [(0, a2), (0, (m3 (a0 + 11) a1)), (0, 0), (13, a0)], m3)) rfl trivial ?_
          obtain ⟨v6, e_, h⟩ := xB_t h
          refine xEvG_call xml xfetch (q := (some (0, v6), m3)) rfl (hQ_besideIn a0 0 (m3 (a0 + 11) a1) a2 m3 _ e_) ?_
          show xEv (157, 62, [some (13, a0), some (0, a1), some (0, a2), some (0, (m3 (a0 + 11) a1)), none], [(0, v6)], m3) _
          refine xEvG_n xml xfetch 4 (y := (157, if v6 = (-1) then 70 else 72, [some (13, a0), some (0, a1), some (0, a2), some (0, (m3 (a0 + 11) a1)), some (0, v6)], [], m3)) rfl trivial ?_
          refine xEvG_br xml xfetch (fun c_ => ?_) (fun c_ => ?_)
          · have h := xif_t c_ h
            refine xEvG_n xml xfetch 1 (y := (157, 71, [some (13, a0), some (0, a1), some (0, a2), some (0, (m3 (a0 + 11) a1)), some (0, v6)], [(0, 1)], m3)) rfl trivial ?_
            cases h
            exact xEvG_ret xml xfetch rfl
          · have h := xif_f c_ h
            refine xEvG_n xml xfetch 2 (y := (157, 74, [some (13, a0), some (0, a1), some (0, a2), some (0, (m3 (a0 + 11) a1)), some (0, v6)], [(0, a1), (13, a0)], m3)) rfl trivial ?_
            obtain ⟨v7, e_, h⟩ := xB_t h
            refine xEvG_call xml xfetch (q := (some (0, v7), m3)) rfl (hQ_outAhead a0 a1 m3 _ e_) ?_
            show xEv (157, 77, [some (13, a0), some (0, a1), some (0, a2), some (0, (m3 (a0 + 11) a1)), some (0, v6)], [(0, v7)], m3) _
            refine xEvG_n xml xfetch 1 (y := (157, 79, [some (13, a0), some (0, a1), some (0, a2), some (0, (m3 (a0 + 11) a1)), some (0, v6)], [(0, v6), (0, v7)], m3)) rfl trivial ?_
            refine xEvG_call xml xfetch (q := (some (0, fQ_isBit v7 v6 m3), m3)) rfl (hQ_isBit v7 v6 m3 _ rfl) ?_
            show xEv (157, 82, [some (13, a0), some (0, a1), some (0, a2), some (0, (m3 (a0 + 11) a1)), some (0, v6)], [(0, (fQ_isBit v7 v6 m3))], m3) _
            refine xEvG_n xml xfetch 1 (y := (157, if (fQ_isBit v7 v6 m3) = 0 then 98 else 85, [some (13, a0), some (0, a1), some (0, a2), some (0, (m3 (a0 + 11) a1)), some (0, v6)], [], m3)) rfl trivial ?_
            refine xEvG_br xml xfetch (fun c_ => ?_) (fun c_ => ?_)
            · have h := xif_t c_ h
              refine xEvG_n xml xfetch 6 (y := (157, 105, [some (13, a0), some (0, a1), some (0, a2), some (0, (m3 (a0 + 11) a1)), some (0, v6)], [(0, a1), (0, (xw32 (1 - a2))), (0, v6), (13, a0)], m3)) rfl trivial ?_
              obtain ⟨v9, e_, h⟩ := xB_t h
              refine xEvG_call xml xfetch (q := (some (0, v9), m3)) rfl (hQ_reasonOf a0 v6 (xw32 (1 - a2)) a1 m3 _ e_) ?_
              show xEv (157, 108, [some (13, a0), some (0, a1), some (0, a2), some (0, (m3 (a0 + 11) a1)), some (0, v6)], [(0, v9)], m3) _
              cases h
              exact xEvG_ret xml xfetch rfl
            · have h := xif_f c_ h
              refine xEvG_n xml xfetch 2 (y := (157, 88, [some (13, a0), some (0, a1), some (0, a2), some (0, (m3 (a0 + 11) a1)), some (0, v6)], [(0, v6), (13, a0)], m3)) rfl trivial ?_
              obtain ⟨v10, e_, h⟩ := xB_t h
              refine xEvG_call xml xfetch (q := (some (0, v10), m3)) rfl (hQ_isLoyal a0 v6 m3 _ e_) ?_
              show xEv (157, 91, [some (13, a0), some (0, a1), some (0, a2), some (0, (m3 (a0 + 11) a1)), some (0, v6)], [(0, v10)], m3) _
              refine xEvG_n xml xfetch 1 (y := (157, if v10 = 0 then 94 else 98, [some (13, a0), some (0, a1), some (0, a2), some (0, (m3 (a0 + 11) a1)), some (0, v6)], [], m3)) rfl trivial ?_
              refine xEvG_br xml xfetch (fun c_ => ?_) (fun c_ => ?_)
              · have h := xif_t c_ h
                refine xEvG_n xml xfetch 2 (y := (157, 108, [some (13, a0), some (0, a1), some (0, a2), some (0, (m3 (a0 + 11) a1)), some (0, v6)], [(0, 2)], m3)) rfl trivial ?_
                cases h
                exact xEvG_ret xml xfetch rfl
              · have h := xif_f c_ h
                refine xEvG_n xml xfetch 6 (y := (157, 105, [some (13, a0), some (0, a1), some (0, a2), some (0, (m3 (a0 + 11) a1)), some (0, v6)], [(0, a1), (0, (xw32 (1 - a2))), (0, v6), (13, a0)], m3)) rfl trivial ?_
                obtain ⟨v11, e_, h⟩ := xB_t h
                refine xEvG_call xml xfetch (q := (some (0, v11), m3)) rfl (hQ_reasonOf a0 v6 (xw32 (1 - a2)) a1 m3 _ e_) ?_
                show xEv (157, 108, [some (13, a0), some (0, a1), some (0, a2), some (0, (m3 (a0 + 11) a1)), some (0, v6)], [(0, v11)], m3) _
                cases h
                exact xEvG_ret xml xfetch rfl
        · have h := xif_f c_ h
          refine xEvG_n xml xfetch 1 (y := (157, 54, [some (13, a0), some (0, a1), some (0, a2), some (0, (m3 (a0 + 11) a1)), none], [(0, (-1))], m3)) rfl trivial ?_
          cases h
          exact xEvG_ret xml xfetch rfl

/-- ConsentDoorsModel.out(I)I -/
def fQ_out (a0 a1 : Int) (M : xM) : Option (Int × xM) := if (fQ_isHour a0 a1 (xwr M a0 0 0)) = 0 then (some ((-2), (xwr M a0 0 0))) else (xB (fQ_asTold a0 (xwr M a0 0 0)) (fun m2 => xA (0 ≤ a1 ∧ a1 < 24) (some ((m2 (a0 + 16) a1), m2))))
theorem hQ_out (a0 a1 : Int) (M : xM) (r : Int × xM) (h : fQ_out a0 a1 M = some r) : xEv (158, 0, [some (13, a0), some (0, a1)], [], M) (some (0, r.1), r.2) := by
  unfold fQ_out at h
  refine xEvG_n xml xfetch 6 (y := (158, 8, [some (13, a0), some (0, a1)], [(1, a1), (13, a0)], (xwr M a0 0 0))) rfl trivial ?_
  refine xEvG_call xml xfetch (q := (some (0, fQ_isHour a0 a1 (xwr M a0 0 0)), (xwr M a0 0 0))) rfl (hQ_isHour a0 a1 (xwr M a0 0 0) _ rfl) ?_
  show xEv (158, 11, [some (13, a0), some (0, a1)], [(0, (fQ_isHour a0 a1 (xwr M a0 0 0)))], (xwr M a0 0 0)) _
  refine xEvG_n xml xfetch 1 (y := (158, if (fQ_isHour a0 a1 (xwr M a0 0 0)) = 0 then 14 else 17, [some (13, a0), some (0, a1)], [], (xwr M a0 0 0))) rfl trivial ?_
  refine xEvG_br xml xfetch (fun c_ => ?_) (fun c_ => ?_)
  · have h := xif_t c_ h
    refine xEvG_n xml xfetch 1 (y := (158, 16, [some (13, a0), some (0, a1)], [(0, (-2))], (xwr M a0 0 0))) rfl trivial ?_
    cases h
    exact xEvG_ret xml xfetch rfl
  · have h := xif_f c_ h
    refine xEvG_n xml xfetch 1 (y := (158, 18, [some (13, a0), some (0, a1)], [(13, a0)], (xwr M a0 0 0))) rfl trivial ?_
    obtain ⟨m2, e_, h⟩ := xB_t h
    refine xEvG_call xml xfetch (q := (none, m2)) rfl (hQ_asTold a0 (xwr M a0 0 0) _ e_) ?_
    show xEv (158, 21, [some (13, a0), some (0, a1)], [], m2) _
    have a0_ := (xA_t h).1
    have h := (xA_t h).2
    refine xEvG_n xml xfetch 4 (y := (158, 27, [some (13, a0), some (0, a1)], [(0, (m2 (a0 + 16) a1))], m2)) rfl ⟨a0_, trivial⟩ ?_
    cases h
    exact xEvG_ret xml xfetch rfl

end
