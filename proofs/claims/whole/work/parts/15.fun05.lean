/-! the methods as functions, each with its proof (printed by wip/tools/fgen.py) -/
noncomputable section
/-- ConsentDoors.temper(II)I -/
def fD_temper (a0 a1 a2 : Int) (M : xM) : Option (Int × xM) := if (fPrison_hasCell (a0 + 15) a1 M) = 0 then (some ((-2), M)) else (if a2 < 0 then (some ((-2), M)) else (if 9 < a2 then (some ((-2), M)) else (xA (0 ≤ a1 ∧ a1 < 9) (xA (0 ≤ a1 ∧ a1 < 9) (xB (fD_settle a0 (xwr M ((a0 + 15) + 3) a1 a2)) (fun m2 => some ((M ((a0 + 15) + 3) a1), m2)))))))
theorem hD_temper (a0 a1 a2 : Int) (M : xM) (r : Int × xM) (h : fD_temper a0 a1 a2 M = some r) : xEv (64, 0, [some (2, a0), some (0, a1), some (0, a2), none], [], M) (some (0, r.1), r.2) := by
  unfold fD_temper at h
  refine xEvG_n xml xfetch 3 (y := (64, 5, [some (2, a0), some (0, a1), some (0, a2), none], [(0, a1), (8, (a0 + 15))], M)) rfl trivial ?_
  refine xEvG_call xml xfetch (q := (some (0, fPrison_hasCell (a0 + 15) a1 M), M)) rfl (hPrison_hasCell (a0 + 15) a1 M _ rfl) ?_
  show xEv (64, 8, [some (2, a0), some (0, a1), some (0, a2), none], [(0, (fPrison_hasCell (a0 + 15) a1 M))], M) _
  refine xEvG_n xml xfetch 1 (y := (64, if (fPrison_hasCell (a0 + 15) a1 M) = 0 then 21 else 11, [some (2, a0), some (0, a1), some (0, a2), none], [], M)) rfl trivial ?_
  refine xEvG_br xml xfetch (fun c_ => ?_) (fun c_ => ?_)
  · have h := xif_t c_ h
    refine xEvG_n xml xfetch 1 (y := (64, 23, [some (2, a0), some (0, a1), some (0, a2), none], [(0, (-2))], M)) rfl trivial ?_
    cases h
    exact xEvG_ret xml xfetch rfl
  · have h := xif_f c_ h
    refine xEvG_n xml xfetch 2 (y := (64, if a2 < 0 then 21 else 15, [some (2, a0), some (0, a1), some (0, a2), none], [], M)) rfl trivial ?_
    refine xEvG_br xml xfetch (fun c_ => ?_) (fun c_ => ?_)
    · have h := xif_t c_ h
      refine xEvG_n xml xfetch 1 (y := (64, 23, [some (2, a0), some (0, a1), some (0, a2), none], [(0, (-2))], M)) rfl trivial ?_
      cases h
      exact xEvG_ret xml xfetch rfl
    · have h := xif_f c_ h
      refine xEvG_n xml xfetch 3 (y := (64, if 9 < a2 then 21 else 24, [some (2, a0), some (0, a1), some (0, a2), none], [], M)) rfl trivial ?_
      refine xEvG_br xml xfetch (fun c_ => ?_) (fun c_ => ?_)
      · have h := xif_t c_ h
        refine xEvG_n xml xfetch 1 (y := (64, 23, [some (2, a0), some (0, a1), some (0, a2), none], [(0, (-2))], M)) rfl trivial ?_
        cases h
        exact xEvG_ret xml xfetch rfl
      · have h := xif_f c_ h
        have a0_ := (xA_t h).1
        have h := (xA_t h).2
        have a1_ := (xA_t h).1
        have h := (xA_t h).2
        refine xEvG_n xml xfetch 13 (y := (64, 45, [some (2, a0), some (0, a1), some (0, a2), some (0, (M ((a0 + 15) + 3) a1))], [(2, a0)], (xwr M ((a0 + 15) + 3) a1 a2))) rfl ⟨a0_, a1_, trivial⟩ ?_
        obtain ⟨m2, e_, h⟩ := xB_t h
        refine xEvG_call xml xfetch (q := (none, m2)) rfl (hD_settle a0 (xwr M ((a0 + 15) + 3) a1 a2) _ e_) ?_
        show xEv (64, 48, [some (2, a0), some (0, a1), some (0, a2), some (0, (M ((a0 + 15) + 3) a1))], [], m2) _
        refine xEvG_n xml xfetch 1 (y := (64, 49, [some (2, a0), some (0, a1), some (0, a2), some (0, (M ((a0 + 15) + 3) a1))], [(0, (M ((a0 + 15) + 3) a1))], m2)) rfl trivial ?_
        cases h
        exact xEvG_ret xml xfetch rfl

/-- ConsentDoors.quarrel(II)I -/
def fD_quarrel (a0 a1 a2 : Int) (M : xM) : Option (Int × xM) := if (fPrison_hasCell (a0 + 15) a1 M) = 0 then (some ((-2), M)) else (if a2 < 0 then (some ((-2), M)) else (if 1 < a2 then (some ((-2), M)) else (if (fPrison_neighbour (a0 + 15) a1 1 M) = (-1) then (some ((-2), M)) else (xB (fD_settle a0 (xwr M (a0 + 15) 5 (xor32 (xand (M (a0 + 15) 5) (xxor (xshl 1 a1) (-1))) (xshl a2 a1)))) (fun m4 => some ((fD_bit (M (a0 + 15) 5) a1 M), m4))))))
theorem hD_quarrel (a0 a1 a2 : Int) (M : xM) (r : Int × xM) (h : fD_quarrel a0 a1 a2 M = some r) : xEv (65, 0, [some (2, a0), some (0, a1), some (0, a2), none], [], M) (some (0, r.1), r.2) := by
  unfold fD_quarrel at h
  refine xEvG_n xml xfetch 3 (y := (65, 5, [some (2, a0), some (0, a1), some (0, a2), none], [(0, a1), (8, (a0 + 15))], M)) rfl trivial ?_
  refine xEvG_call xml xfetch (q := (some (0, fPrison_hasCell (a0 + 15) a1 M), M)) rfl (hPrison_hasCell (a0 + 15) a1 M _ rfl) ?_
  show xEv (65, 8, [some (2, a0), some (0, a1), some (0, a2), none], [(0, (fPrison_hasCell (a0 + 15) a1 M))], M) _
  refine xEvG_n xml xfetch 1 (y := (65, if (fPrison_hasCell (a0 + 15) a1 M) = 0 then 33 else 11, [some (2, a0), some (0, a1), some (0, a2), none], [], M)) rfl trivial ?_
  refine xEvG_br xml xfetch (fun c_ => ?_) (fun c_ => ?_)
  · have h := xif_t c_ h
    refine xEvG_n xml xfetch 1 (y := (65, 35, [some (2, a0), some (0, a1), some (0, a2), none], [(0, (-2))], M)) rfl trivial ?_
    cases h
    exact xEvG_ret xml xfetch rfl
  · have h := xif_f c_ h
    refine xEvG_n xml xfetch 2 (y := (65, if a2 < 0 then 33 else 15, [some (2, a0), some (0, a1), some (0, a2), none], [], M)) rfl trivial ?_
    refine xEvG_br xml xfetch (fun c_ => ?_) (fun c_ => ?_)
    · have h := xif_t c_ h
      refine xEvG_n xml xfetch 1 (y := (65, 35, [some (2, a0), some (0, a1), some (0, a2), none], [(0, (-2))], M)) rfl trivial ?_
      cases h
      exact xEvG_ret xml xfetch rfl
    · have h := xif_f c_ h
      refine xEvG_n xml xfetch 3 (y := (65, if 1 < a2 then 33 else 20, [some (2, a0), some (0, a1), some (0, a2), none], [], M)) rfl trivial ?_
      refine xEvG_br xml xfetch (fun c_ => ?_) (fun c_ => ?_)
      · have h := xif_t c_ h
        refine xEvG_n xml xfetch 1 (y := (65, 35, [some (2, a0), some (0, a1), some (0, a2), none], [(0, (-2))], M)) rfl trivial ?_
        cases h
        exact xEvG_ret xml xfetch rfl
      · have h := xif_f c_ h
        refine xEvG_n xml xfetch 4 (y := (65, 26, [some (2, a0), some (0, a1), some (0, a2), none], [(0, 1), (0, a1), (8, (a0 + 15))], M)) rfl trivial ?_
        refine xEvG_call xml xfetch (q := (some (0, fPrison_neighbour (a0 + 15) a1 1 M), M)) rfl (hPrison_neighbour (a0 + 15) a1 1 M _ rfl) ?_
        show xEv (65, 29, [some (2, a0), some (0, a1), some (0, a2), none], [(0, (fPrison_neighbour (a0 + 15) a1 1 M))], M) _
        refine xEvG_n xml xfetch 2 (y := (65, if (fPrison_neighbour (a0 + 15) a1 1 M) = (-1) then 33 else 36, [some (2, a0), some (0, a1), some (0, a2), none], [], M)) rfl trivial ?_
        refine xEvG_br xml xfetch (fun c_ => ?_) (fun c_ => ?_)
        · have h := xif_t c_ h
          refine xEvG_n xml xfetch 1 (y := (65, 35, [some (2, a0), some (0, a1), some (0, a2), none], [(0, (-2))], M)) rfl trivial ?_
          cases h
          exact xEvG_ret xml xfetch rfl
        · have h := xif_f c_ h
          refine xEvG_n xml xfetch 4 (y := (65, 44, [some (2, a0), some (0, a1), some (0, a2), none], [(0, a1), (0, (M (a0 + 15) 5))], M)) rfl trivial ?_
          refine xEvG_call xml xfetch (q := (some (0, fD_bit (M (a0 + 15) 5) a1 M), M)) rfl (hD_bit (M (a0 + 15) 5) a1 M _ rfl) ?_
          show xEv (65, 47, [some (2, a0), some (0, a1), some (0, a2), none], [(0, (fD_bit (M (a0 + 15) 5) a1 M))], M) _
          refine xEvG_n xml xfetch 18 (y := (65, 73, [some (2, a0), some (0, a1), some (0, a2), some (0, (fD_bit (M (a0 + 15) 5) a1 M))], [(2, a0)], (xwr M (a0 + 15) 5 (xor32 (xand (M (a0 + 15) 5) (xxor (xshl 1 a1) (-1))) (xshl a2 a1))))) rfl trivial ?_
          obtain ⟨m4, e_, h⟩ := xB_t h
          refine xEvG_call xml xfetch (q := (none, m4)) rfl (hD_settle a0 (xwr M (a0 + 15) 5 (xor32 (xand (M (a0 + 15) 5) (xxor (xshl 1 a1) (-1))) (xshl a2 a1))) _ e_) ?_
          show xEv (65, 76, [some (2, a0), some (0, a1), some (0, a2), some (0, (fD_bit (M (a0 + 15) 5) a1 M))], [], m4) _
          refine xEvG_n xml xfetch 1 (y := (65, 77, [some (2, a0), some (0, a1), some (0, a2), some (0, (fD_bit (M (a0 + 15) 5) a1 M))], [(0, (fD_bit (M (a0 + 15) 5) a1 M))], m4)) rfl trivial ?_
          cases h
          exact xEvG_ret xml xfetch rfl

/-- ConsentDoors.vow(II)I -/
def fD_vow (a0 a1 a2 : Int) (M : xM) : Option (Int × xM) := if (fPrison_hasCell (a0 + 15) a1 M) = 0 then (some ((-2), M)) else (if a2 < 0 then (some ((-2), M)) else (if 1 < a2 then (some ((-2), M)) else (xB (fD_settle a0 (xwr M (a0 + 15) 4 (xor32 (xand (M (a0 + 15) 4) (xxor (xshl 1 a1) (-1))) (xshl a2 a1)))) (fun m3 => some ((fD_bit (M (a0 + 15) 4) a1 M), m3)))))
theorem hD_vow (a0 a1 a2 : Int) (M : xM) (r : Int × xM) (h : fD_vow a0 a1 a2 M = some r) : xEv (66, 0, [some (2, a0), some (0, a1), some (0, a2), none], [], M) (some (0, r.1), r.2) := by
  unfold fD_vow at h
  refine xEvG_n xml xfetch 3 (y := (66, 5, [some (2, a0), some (0, a1), some (0, a2), none], [(0, a1), (8, (a0 + 15))], M)) rfl trivial ?_
  refine xEvG_call xml xfetch (q := (some (0, fPrison_hasCell (a0 + 15) a1 M), M)) rfl (hPrison_hasCell (a0 + 15) a1 M _ rfl) ?_
  show xEv (66, 8, [some (2, a0), some (0, a1), some (0, a2), none], [(0, (fPrison_hasCell (a0 + 15) a1 M))], M) _
  refine xEvG_n xml xfetch 1 (y := (66, if (fPrison_hasCell (a0 + 15) a1 M) = 0 then 20 else 11, [some (2, a0), some (0, a1), some (0, a2), none], [], M)) rfl trivial ?_
  refine xEvG_br xml xfetch (fun c_ => ?_) (fun c_ => ?_)
  · have h := xif_t c_ h
    refine xEvG_n xml xfetch 1 (y := (66, 22, [some (2, a0), some (0, a1), some (0, a2), none], [(0, (-2))], M)) rfl trivial ?_
    cases h
    exact xEvG_ret xml xfetch rfl
  · have h := xif_f c_ h
    refine xEvG_n xml xfetch 2 (y := (66, if a2 < 0 then 20 else 15, [some (2, a0), some (0, a1), some (0, a2), none], [], M)) rfl trivial ?_
    refine xEvG_br xml xfetch (fun c_ => ?_) (fun c_ => ?_)
    · have h := xif_t c_ h
      refine xEvG_n xml xfetch 1 (y := (66, 22, [some (2, a0), some (0, a1), some (0, a2), none], [(0, (-2))], M)) rfl trivial ?_
      cases h
      exact xEvG_ret xml xfetch rfl
    · have h := xif_f c_ h
      refine xEvG_n xml xfetch 3 (y := (66, if 1 < a2 then 20 else 23, [some (2, a0), some (0, a1), some (0, a2), none], [], M)) rfl trivial ?_
      refine xEvG_br xml xfetch (fun c_ => ?_) (fun c_ => ?_)
      · have h := xif_t c_ h
        refine xEvG_n xml xfetch 1 (y := (66, 22, [some (2, a0), some (0, a1), some (0, a2), none], [(0, (-2))], M)) rfl trivial ?_
        cases h
        exact xEvG_ret xml xfetch rfl
      · have h := xif_f c_ h
        refine xEvG_n xml xfetch 4 (y := (66, 31, [some (2, a0), some (0, a1), some (0, a2), none], [(0, a1), (0, (M (a0 + 15) 4))], M)) rfl trivial ?_
        refine xEvG_call xml xfetch (q := (some (0, fD_bit (M (a0 + 15) 4) a1 M), M)) rfl (hD_bit (M (a0 + 15) 4) a1 M _ rfl) ?_
        show xEv (66, 34, [some (2, a0), some (0, a1), some (0, a2), none], [(0, (fD_bit (M (a0 + 15) 4) a1 M))], M) _
        refine xEvG_n xml xfetch 18 (y := (66, 60, [some (2, a0), some (0, a1), some (0, a2), some (0, (fD_bit (M (a0 + 15) 4) a1 M))], [(2, a0)], (xwr M (a0 + 15) 4 (xor32 (xand (M (a0 + 15) 4) (xxor (xshl 1 a1) (-1))) (xshl a2 a1))))) rfl trivial ?_
        obtain ⟨m3, e_, h⟩ := xB_t h
        refine xEvG_call xml xfetch (q := (none, m3)) rfl (hD_settle a0 (xwr M (a0 + 15) 4 (xor32 (xand (M (a0 + 15) 4) (xxor (xshl 1 a1) (-1))) (xshl a2 a1))) _ e_) ?_
        show xEv (66, 63, [some (2, a0), some (0, a1), some (0, a2), some (0, (fD_bit (M (a0 + 15) 4) a1 M))], [], m3) _
        refine xEvG_n xml xfetch 1 (y := (66, 64, [some (2, a0), some (0, a1), some (0, a2), some (0, (fD_bit (M (a0 + 15) 4) a1 M))], [(0, (fD_bit (M (a0 + 15) 4) a1 M))], m3)) rfl trivial ?_
        cases h
        exact xEvG_ret xml xfetch rfl

def fD_sleepiestHour_L6 : Nat → Int → Int → Int → Int → xM → Option Int
  | 0, _, _, _, _, _ => none
  | g + 1, x0, x1, x2, x3, M => if x3 < (M (x0 + 15) 1) then (xB (fD_howManyHave x0 ((x0 + 15) + 5) x3 M) (fun v1 => if x1 < v1 then ((fD_sleepiestHour_L6 g) x0 v1 x3 (xw32 (x3 + 1)) M) else ((fD_sleepiestHour_L6 g) x0 x1 x2 (xw32 (x3 + 1)) M))) else (some x2)
theorem hD_sleepiestHour_L6 : ∀ (g : Nat) (x0 x1 x2 x3 : Int) (M : xM) (r : Int) (h : fD_sleepiestHour_L6 g x0 x1 x2 x3 M = some r), xEv (69, 6, [some (2, x0), some (0, x1), some (0, x2), some (0, x3), none], [], M) (some (0, r), M)
  | 0, _, _, _, _, _, _, h => by cases h
  | g + 1, x0, x1, x2, x3, M, r, h => by
    unfold fD_sleepiestHour_L6 at h
    refine xEvG_n xml xfetch 5 (y := (69, if x3 < (M (x0 + 15) 1) then 17 else 48, [some (2, x0), some (0, x1), some (0, x2), some (0, x3), none], [], M)) rfl trivial ?_
    refine xEvG_br xml xfetch (fun c_ => ?_) (fun c_ => ?_)
    · have h := xif_t c_ h
      refine xEvG_n xml xfetch 5 (y := (69, 26, [some (2, x0), some (0, x1), some (0, x2), some (0, x3), none], [(0, x3), (23, ((x0 + 15) + 5)), (2, x0)], M)) rfl trivial ?_
      obtain ⟨v1, e_, h⟩ := xB_t h
      refine xEvG_call xml xfetch (q := (some (0, v1), M)) rfl (hD_howManyHave x0 ((x0 + 15) + 5) x3 M _ e_) ?_
      show xEv (69, 29, [some (2, x0), some (0, x1), some (0, x2), some (0, x3), none], [(0, v1)], M) _
      refine xEvG_n xml xfetch 4 (y := (69, if x1 < v1 then 37 else 42, [some (2, x0), some (0, x1), some (0, x2), some (0, x3), some (0, v1)], [], M)) rfl trivial ?_
      refine xEvG_br xml xfetch (fun c_ => ?_) (fun c_ => ?_)
      · have h := xif_t c_ h
        refine xEvG_n xml xfetch 6 (y := (69, 6, [some (2, x0), some (0, v1), some (0, x3), some (0, (xw32 (x3 + 1))), some (0, v1)], [], M)) rfl trivial ?_
        refine xEvG_mask xml xfetch [true, true, true, true, false] ?_
        exact (hD_sleepiestHour_L6 g) x0 v1 x3 (xw32 (x3 + 1)) M _ h
      · have h := xif_f c_ h
        refine xEvG_n xml xfetch 2 (y := (69, 6, [some (2, x0), some (0, x1), some (0, x2), some (0, (xw32 (x3 + 1))), some (0, v1)], [], M)) rfl trivial ?_
        refine xEvG_mask xml xfetch [true, true, true, true, false] ?_
        exact (hD_sleepiestHour_L6 g) x0 x1 x2 (xw32 (x3 + 1)) M _ h
    · have h := xif_f c_ h
      refine xEvG_n xml xfetch 1 (y := (69, 49, [some (2, x0), some (0, x1), some (0, x2), some (0, x3), none], [(0, x2)], M)) rfl trivial ?_
      cases h
      exact xEvG_ret xml xfetch rfl
/-- ConsentDoors.sleepiestHour()I -/
def fD_sleepiestHour (a0 : Int) (M : xM) : Option Int := fD_sleepiestHour_L6 20001 a0 0 0 0 M
theorem hD_sleepiestHour (a0 : Int) (M : xM) (r : Int) (h : fD_sleepiestHour a0 M = some r) : xEv (69, 0, [some (2, a0), none, none, none, none], [], M) (some (0, r), M) := by
  unfold fD_sleepiestHour at h
  refine xEvG_n xml xfetch 6 (y := (69, 6, [some (2, a0), some (0, 0), some (0, 0), some (0, 0), none], [], M)) rfl trivial ?_
  refine xEvG_mask xml xfetch [true, true, true, true, false] ?_
  exact hD_sleepiestHour_L6 20001 a0 0 0 0 M _ h

/-- ConsentDoors.sleep(II)I -/
def fD_sleep (a0 a1 a2 : Int) (M : xM) : Option Int := if (fPrison_hasCell (a0 + 15) a1 M) = 0 then (some (-2)) else (if a2 < 0 then (some (-2)) else (if 1 < a2 then (some (-2)) else (if a2 = 0 then (xA (0 ≤ a1 ∧ a1 < 9) (some (fJI_bitCount (M ((a0 + 15) + 5) a1) M))) else (xB (fD_sleepiestHour a0 M) (fun v3 => some v3)))))
theorem hD_sleep (a0 a1 a2 : Int) (M : xM) (r : Int) (h : fD_sleep a0 a1 a2 M = some r) : xEv (68, 0, [some (2, a0), some (0, a1), some (0, a2)], [], M) (some (0, r), M) := by
  unfold fD_sleep at h
  refine xEvG_n xml xfetch 3 (y := (68, 5, [some (2, a0), some (0, a1), some (0, a2)], [(0, a1), (8, (a0 + 15))], M)) rfl trivial ?_
  refine xEvG_call xml xfetch (q := (some (0, fPrison_hasCell (a0 + 15) a1 M), M)) rfl (hPrison_hasCell (a0 + 15) a1 M _ rfl) ?_
  show xEv (68, 8, [some (2, a0), some (0, a1), some (0, a2)], [(0, (fPrison_hasCell (a0 + 15) a1 M))], M) _
  refine xEvG_n xml xfetch 1 (y := (68, if (fPrison_hasCell (a0 + 15) a1 M) = 0 then 20 else 11, [some (2, a0), some (0, a1), some (0, a2)], [], M)) rfl trivial ?_
  refine xEvG_br xml xfetch (fun c_ => ?_) (fun c_ => ?_)
  · have h := xif_t c_ h
    refine xEvG_n xml xfetch 1 (y := (68, 22, [some (2, a0), some (0, a1), some (0, a2)], [(0, (-2))], M)) rfl trivial ?_
    cases h
    exact xEvG_ret xml xfetch rfl
  · have h := xif_f c_ h
    refine xEvG_n xml xfetch 2 (y := (68, if a2 < 0 then 20 else 15, [some (2, a0), some (0, a1), some (0, a2)], [], M)) rfl trivial ?_
    refine xEvG_br xml xfetch (fun c_ => ?_) (fun c_ => ?_)
    · have h := xif_t c_ h
      refine xEvG_n xml xfetch 1 (y := (68, 22, [some (2, a0), some (0, a1), some (0, a2)], [(0, (-2))], M)) rfl trivial ?_
      cases h
      exact xEvG_ret xml xfetch rfl
    · have h := xif_f c_ h
      refine xEvG_n xml xfetch 3 (y := (68, if 1 < a2 then 20 else 23, [some (2, a0), some (0, a1), some (0, a2)], [], M)) rfl trivial ?_
      refine xEvG_br xml xfetch (fun c_ => ?_) (fun c_ => ?_)
      · have h := xif_t c_ h
        refine xEvG_n xml xfetch 1 (y := (68, 22, [some (2, a0), some (0, a1), some (0, a2)], [(0, (-2))], M)) rfl trivial ?_
        cases h
        exact xEvG_ret xml xfetch rfl
      · have h := xif_f c_ h
        refine xEvG_n xml xfetch 2 (y := (68, if a2 = 0 then 27 else 42, [some (2, a0), some (0, a1), some (0, a2)], [], M)) rfl trivial ?_
        refine xEvG_br xml xfetch (fun c_ => ?_) (fun c_ => ?_)
        · have h := xif_t c_ h
          have a0_ := (xA_t h).1
          have h := (xA_t h).2
          refine xEvG_n xml xfetch 5 (y := (68, 36, [some (2, a0), some (0, a1), some (0, a2)], [(0, (M ((a0 + 15) + 5) a1))], M)) rfl ⟨a0_, trivial⟩ ?_
          refine xEvG_call xml xfetch (q := (some (0, fJI_bitCount (M ((a0 + 15) + 5) a1) M), M)) rfl (hJI_bitCount (M ((a0 + 15) + 5) a1) M _ rfl) ?_
          show xEv (68, 39, [some (2, a0), some (0, a1), some (0, a2)], [(0, (fJI_bitCount (M ((a0 + 15) + 5) a1) M))], M) _
          refine xEvG_n xml xfetch 1 (y := (68, 46, [some (2, a0), some (0, a1), some (0, a2)], [(0, (fJI_bitCount (M ((a0 + 15) + 5) a1) M))], M)) rfl trivial ?_
          cases h
          exact xEvG_ret xml xfetch rfl
        · have h := xif_f c_ h
          refine xEvG_n xml xfetch 1 (y := (68, 43, [some (2, a0), some (0, a1), some (0, a2)], [(2, a0)], M)) rfl trivial ?_
          obtain ⟨v3, e_, h⟩ := xB_t h
          refine xEvG_call xml xfetch (q := (some (0, v3), M)) rfl (hD_sleepiestHour a0 M _ e_) ?_
          show xEv (68, 46, [some (2, a0), some (0, a1), some (0, a2)], [(0, v3)], M) _
          cases h
          exact xEvG_ret xml xfetch rfl

/-- ConsentDoors.asleep(I)I -/
def fD_asleep (a0 a1 : Int) (M : xM) : Option Int := if (fPrison_hasHour (a0 + 15) a1 M) = 0 then (some (-2)) else (xB (fD_howManyHave a0 ((a0 + 15) + 5) a1 M) (fun v2 => some v2))
theorem hD_asleep (a0 a1 : Int) (M : xM) (r : Int) (h : fD_asleep a0 a1 M = some r) : xEv (70, 0, [some (2, a0), some (0, a1)], [], M) (some (0, r), M) := by
  unfold fD_asleep at h
  refine xEvG_n xml xfetch 3 (y := (70, 5, [some (2, a0), some (0, a1)], [(0, a1), (8, (a0 + 15))], M)) rfl trivial ?_
  refine xEvG_call xml xfetch (q := (some (0, fPrison_hasHour (a0 + 15) a1 M), M)) rfl (hPrison_hasHour (a0 + 15) a1 M _ rfl) ?_
  show xEv (70, 8, [some (2, a0), some (0, a1)], [(0, (fPrison_hasHour (a0 + 15) a1 M))], M) _
  refine xEvG_n xml xfetch 1 (y := (70, if (fPrison_hasHour (a0 + 15) a1 M) = 0 then 26 else 11, [some (2, a0), some (0, a1)], [], M)) rfl trivial ?_
  refine xEvG_br xml xfetch (fun c_ => ?_) (fun c_ => ?_)
  · have h := xif_t c_ h
    refine xEvG_n xml xfetch 1 (y := (70, 28, [some (2, a0), some (0, a1)], [(0, (-2))], M)) rfl trivial ?_
    cases h
    exact xEvG_ret xml xfetch rfl
  · have h := xif_f c_ h
    refine xEvG_n xml xfetch 5 (y := (70, 20, [some (2, a0), some (0, a1)], [(0, a1), (23, ((a0 + 15) + 5)), (2, a0)], M)) rfl trivial ?_
    obtain ⟨v2, e_, h⟩ := xB_t h
    refine xEvG_call xml xfetch (q := (some (0, v2), M)) rfl (hD_howManyHave a0 ((a0 + 15) + 5) a1 M _ e_) ?_
    show xEv (70, 23, [some (2, a0), some (0, a1)], [(0, v2)], M) _
    refine xEvG_n xml xfetch 1 (y := (70, 28, [some (2, a0), some (0, a1)], [(0, v2)], M)) rfl trivial ?_
    cases h
    exact xEvG_ret xml xfetch rfl

def fD_pairs_L18 : Nat → Int → Int → Int → Int → xM → Option Int
  | 0, _, _, _, _, _ => none
  | g + 1, x0, x1, x2, x3, M => if x3 < (M (x0 + 15) 0) then (if (fPrison_neighbour (x0 + 15) x3 1 M) = (-1) then ((fD_pairs_L18 g) x0 x1 x2 (xw32 (x3 + 1)) M) else (xA (0 ≤ (xw32 ((xw32 (2 * x3)) + 1)) ∧ (xw32 ((xw32 (2 * x3)) + 1)) < 18) (xA (0 ≤ (xw32 ((xw32 (2 * (fPrison_neighbour (x0 + 15) x3 1 M))) + 0)) ∧ (xw32 ((xw32 (2 * (fPrison_neighbour (x0 + 15) x3 1 M))) + 0)) < 18) ((fD_pairs_L18 g) x0 x1 (xw32 (x2 + (fD_bit (xand (M (((x0 + 37) + 1) + 1) (xw32 ((xw32 (2 * x3)) + 1))) (M (((x0 + 37) + 1) + 1) (xw32 ((xw32 (2 * (fPrison_neighbour (x0 + 15) x3 1 M))) + 0)))) x1 M))) (xw32 (x3 + 1)) M)))) else (some x2)
theorem hD_pairs_L18 : ∀ (g : Nat) (x0 x1 x2 x3 : Int) (M : xM) (r : Int) (h : fD_pairs_L18 g x0 x1 x2 x3 M = some r), xEv (71, 18, [some (2, x0), some (0, x1), some (0, x2), some (0, x3), none, none], [], M) (some (0, r), M)
  | 0, _, _, _, _, _, _, h => by cases h
  | g + 1, x0, x1, x2, x3, M, r, h => by
    unfold fD_pairs_L18 at h
    refine xEvG_n xml xfetch 5 (y := (71, if x3 < (M (x0 + 15) 0) then 29 else 89, [some (2, x0), some (0, x1), some (0, x2), some (0, x3), none, none], [], M)) rfl trivial ?_
    refine xEvG_br xml xfetch (fun c_ => ?_) (fun c_ => ?_)
    · have h := xif_t c_ h
      refine xEvG_n xml xfetch 4 (y := (71, 35, [some (2, x0), some (0, x1), some (0, x2), some (0, x3), none, none], [(0, 1), (0, x3), (8, (x0 + 15))], M)) rfl trivial ?_
      refine xEvG_call xml xfetch (q := (some (0, fPrison_neighbour (x0 + 15) x3 1 M), M)) rfl (hPrison_neighbour (x0 + 15) x3 1 M _ rfl) ?_
      show xEv (71, 38, [some (2, x0), some (0, x1), some (0, x2), some (0, x3), none, none], [(0, (fPrison_neighbour (x0 + 15) x3 1 M))], M) _
      refine xEvG_n xml xfetch 4 (y := (71, if (fPrison_neighbour (x0 + 15) x3 1 M) = (-1) then 83 else 46, [some (2, x0), some (0, x1), some (0, x2), some (0, x3), some (0, (fPrison_neighbour (x0 + 15) x3 1 M)), none], [], M)) rfl trivial ?_
      refine xEvG_br xml xfetch (fun c_ => ?_) (fun c_ => ?_)
      · have h := xif_t c_ h
        refine xEvG_n xml xfetch 2 (y := (71, 18, [some (2, x0), some (0, x1), some (0, x2), some (0, (xw32 (x3 + 1))), some (0, (fPrison_neighbour (x0 + 15) x3 1 M)), none], [], M)) rfl trivial ?_
        refine xEvG_mask xml xfetch [true, true, true, true, false, false] ?_
        exact (hD_pairs_L18 g) x0 x1 x2 (xw32 (x3 + 1)) M _ h
      · have h := xif_f c_ h
        have a0_ := (xA_t h).1
        have h := (xA_t h).2
        have a1_ := (xA_t h).1
        have h := (xA_t h).2
        refine xEvG_n xml xfetch 22 (y := (71, 78, [some (2, x0), some (0, x1), some (0, x2), some (0, x3), some (0, (fPrison_neighbour (x0 + 15) x3 1 M)), some (24, (((x0 + 37) + 1) + 1))], [(0, x1), (0, (xand (M (((x0 + 37) + 1) + 1) (xw32 ((xw32 (2 * x3)) + 1))) (M (((x0 + 37) + 1) + 1) (xw32 ((xw32 (2 * (fPrison_neighbour (x0 + 15) x3 1 M))) + 0))))), (0, x2)], M)) rfl ⟨a0_, a1_, trivial⟩ ?_
        refine xEvG_call xml xfetch (q := (some (0, fD_bit (xand (M (((x0 + 37) + 1) + 1) (xw32 ((xw32 (2 * x3)) + 1))) (M (((x0 + 37) + 1) + 1) (xw32 ((xw32 (2 * (fPrison_neighbour (x0 + 15) x3 1 M))) + 0)))) x1 M), M)) rfl (hD_bit (xand (M (((x0 + 37) + 1) + 1) (xw32 ((xw32 (2 * x3)) + 1))) (M (((x0 + 37) + 1) + 1) (xw32 ((xw32 (2 * (fPrison_neighbour (x0 + 15) x3 1 M))) + 0)))) x1 M _ rfl) ?_
        show xEv (71, 81, [some (2, x0), some (0, x1), some (0, x2), some (0, x3), some (0, (fPrison_neighbour (x0 + 15) x3 1 M)), some (24, (((x0 + 37) + 1) + 1))], [(0, (fD_bit (xand (M (((x0 + 37) + 1) + 1) (xw32 ((xw32 (2 * x3)) + 1))) (M (((x0 + 37) + 1) + 1) (xw32 ((xw32 (2 * (fPrison_neighbour (x0 + 15) x3 1 M))) + 0)))) x1 M)), (0, x2)], M) _
        refine xEvG_n xml xfetch 4 (y := (71, 18, [some (2, x0), some (0, x1), some (0, (xw32 (x2 + (fD_bit (xand (M (((x0 + 37) + 1) + 1) (xw32 ((xw32 (2 * x3)) + 1))) (M (((x0 + 37) + 1) + 1) (xw32 ((xw32 (2 * (fPrison_neighbour (x0 + 15) x3 1 M))) + 0)))) x1 M)))), some (0, (xw32 (x3 + 1))), some (0, (fPrison_neighbour (x0 + 15) x3 1 M)), some (24, (((x0 + 37) + 1) + 1))], [], M)) rfl trivial ?_
        refine xEvG_mask xml xfetch [true, true, true, true, false, false] ?_
        exact (hD_pairs_L18 g) x0 x1 (xw32 (x2 + (fD_bit (xand (M (((x0 + 37) + 1) + 1) (xw32 ((xw32 (2 * x3)) + 1))) (M (((x0 + 37) + 1) + 1) (xw32 ((xw32 (2 * (fPrison_neighbour (x0 + 15) x3 1 M))) + 0)))) x1 M))) (xw32 (x3 + 1)) M _ h
    · have h := xif_f c_ h
      refine xEvG_n xml xfetch 1 (y := (71, 90, [some (2, x0), some (0, x1), some (0, x2), some (0, x3), none, none], [(0, x2)], M)) rfl trivial ?_
      cases h
      exact xEvG_ret xml xfetch rfl
/-- ConsentDoors.pairs(I)I -/
def fD_pairs (a0 a1 : Int) (M : xM) : Option Int := if (fPrison_hasHour (a0 + 15) a1 M) = 0 then (some (-2)) else (fD_pairs_L18 20001 a0 a1 0 0 M)
theorem hD_pairs (a0 a1 : Int) (M : xM) (r : Int) (h : fD_pairs a0 a1 M = some r) : xEv (71, 0, [some (2, a0), some (0, a1), none, none, none, none], [], M) (some (0, r), M) := by
  unfold fD_pairs at h
  refine xEvG_n xml xfetch 3 (y := (71, 5, [some (2, a0), some (0, a1), none, none, none, none], [(0, a1), (8, (a0 + 15))], M)) rfl trivial ?_
  refine xEvG_call xml xfetch (q := (some (0, fPrison_hasHour (a0 + 15) a1 M), M)) rfl (hPrison_hasHour (a0 + 15) a1 M _ rfl) ?_
  show xEv (71, 8, [some (2, a0), some (0, a1), none, none, none, none], [(0, (fPrison_hasHour (a0 + 15) a1 M))], M) _
  refine xEvG_n xml xfetch 1 (y := (71, if (fPrison_hasHour (a0 + 15) a1 M) = 0 then 11 else 14, [some (2, a0), some (0, a1), none, none, none, none], [], M)) rfl trivial ?_
  refine xEvG_br xml xfetch (fun c_ => ?_) (fun c_ => ?_)
  · have h := xif_t c_ h
    refine xEvG_n xml xfetch 1 (y := (71, 13, [some (2, a0), some (0, a1), none, none, none, none], [(0, (-2))], M)) rfl trivial ?_
    cases h
    exact xEvG_ret xml xfetch rfl
  · have h := xif_f c_ h
    refine xEvG_n xml xfetch 4 (y := (71, 18, [some (2, a0), some (0, a1), some (0, 0), some (0, 0), none, none], [], M)) rfl trivial ?_
    refine xEvG_mask xml xfetch [true, true, true, true, false, false] ?_
    exact hD_pairs_L18 20001 a0 a1 0 0 M _ h

/-- ConsentDoors.isDrawing(II)Z -/
def fD_isDrawing (a0 a1 : Int) (M : xM) : Int := (if a0 < 0 then 0 else (if 2000000000 < a0 then 0 else (if a1 < 0 then 0 else (if 100 < a1 then 0 else 1 : Int) : Int) : Int) : Int)
theorem hD_isDrawing (a0 a1 : Int) (M : xM) (r : Int) (h : fD_isDrawing a0 a1 M = r) : xEv (86, 0, [some (0, a0), some (0, a1)], [], M) (some (0, r), M) := by
  unfold fD_isDrawing at h
  refine xEvG_n xml xfetch 1 (y := (86, 1, [some (0, a0), some (0, a1)], [(0, a0)], M)) rfl trivial ?_
  have key_ : xEv (86, 26, [some (0, a0), some (0, a1)], [(0, (if a0 < 0 then 0 else (if 2000000000 < a0 then 0 else (if a1 < 0 then 0 else (if 100 < a1 then 0 else 1 : Int) : Int) : Int) : Int))], M) (some (0, r), M) := by
    subst h
    exact xEvG_retc xml xfetch rfl (by (repeat' split) <;> first | exact Or.inl rfl | exact Or.inr rfl)
  refine xEvG_n xml xfetch 1 (y := (86, if a0 < 0 then 25 else 4, [some (0, a0), some (0, a1)], [], M)) rfl trivial ?_
  refine xEvG_br xml xfetch (fun c2_ => ?_) (fun c2_ => ?_)
  · refine xEvG_n xml xfetch 1 (y := (86, 26, [some (0, a0), some (0, a1)], [(0, 0)], M)) rfl trivial ?_
    try simp only [if_pos c2_] at key_
    try simp only [if_pos c2_]
    exact key_
  · refine xEvG_n xml xfetch 3 (y := (86, if 2000000000 < a0 then 25 else 11, [some (0, a0), some (0, a1)], [], M)) rfl trivial ?_
    refine xEvG_br xml xfetch (fun c4_ => ?_) (fun c4_ => ?_)
    · refine xEvG_n xml xfetch 1 (y := (86, 26, [some (0, a0), some (0, a1)], [(0, 0)], M)) rfl trivial ?_
      try simp only [if_neg c2_, if_pos c4_] at key_
      try simp only [if_neg c2_, if_pos c4_]
      exact key_
    · refine xEvG_n xml xfetch 2 (y := (86, if a1 < 0 then 25 else 15, [some (0, a0), some (0, a1)], [], M)) rfl trivial ?_
      refine xEvG_br xml xfetch (fun c6_ => ?_) (fun c6_ => ?_)
      · refine xEvG_n xml xfetch 1 (y := (86, 26, [some (0, a0), some (0, a1)], [(0, 0)], M)) rfl trivial ?_
        try simp only [if_neg c2_, if_neg c4_, if_pos c6_] at key_
        try simp only [if_neg c2_, if_neg c4_, if_pos c6_]
        exact key_
      · refine xEvG_n xml xfetch 3 (y := (86, if 100 < a1 then 25 else 21, [some (0, a0), some (0, a1)], [], M)) rfl trivial ?_
        refine xEvG_br xml xfetch (fun c8_ => ?_) (fun c8_ => ?_)
        · refine xEvG_n xml xfetch 1 (y := (86, 26, [some (0, a0), some (0, a1)], [(0, 0)], M)) rfl trivial ?_
          try simp only [if_neg c2_, if_neg c4_, if_neg c6_, if_pos c8_] at key_
          try simp only [if_neg c2_, if_neg c4_, if_neg c6_, if_pos c8_]
          exact key_
        · refine xEvG_n xml xfetch 2 (y := (86, 26, [some (0, a0), some (0, a1)], [(0, 1)], M)) rfl trivial ?_
          try simp only [if_neg c2_, if_neg c4_, if_neg c6_, if_neg c8_] at key_
          try simp only [if_neg c2_, if_neg c4_, if_neg c6_, if_neg c8_]
          exact key_
theorem bD_isDrawing (a0 a1 : Int) (M : xM) : fD_isDrawing a0 a1 M = 0 ∨ fD_isDrawing a0 a1 M = 1 := by
  unfold fD_isDrawing
  (repeat' split) <;> first | exact Or.inl rfl | exact Or.inr rfl | exact bD_isPoints _ _ | exact bD_isSide _ _ | exact bD_isSlot _ _ | exact bPrison_hasCell _ _ _ | exact bPrison_hasHour _ _ _ | exact bPrison_stands _ _ | exact bSlot_isBelow _ _ _

def fPrison_drawSleeps_L24 (k_9 : Int → Int → Int → Int → Int → xM → Option (Int × xM)) : Nat → Int → Int → Int → Int → Int → Int → Int → xM → Option (Int × xM)
  | 0, _, _, _, _, _, _, _, _ => none
  | g + 1, x0, x2, x3, x4, x6, x7, x8, M => if x8 < (M x0 0) then (if (xcmpL (xrem (xdivL (xrem (xw64 ((xw64 (1103515245 * x4)) + 12345)) 2147483648) 65536) 100) x2) < 0 then (xA (0 ≤ x8 ∧ x8 < 9) (if (fD_bit (M (x0 + 5) x8) x6 M) = 0 then (xA (0 ≤ x8 ∧ x8 < 9) (xA (0 ≤ x8 ∧ x8 < 9) ((fPrison_drawSleeps_L24 k_9 g) x0 x2 x3 (xrem (xw64 ((xw64 (1103515245 * x4)) + 12345)) 2147483648) x6 1 (xw32 (x8 + 1)) (xwr M (x0 + 5) x8 (xor32 (M (x0 + 5) x8) (xshl 1 x6)))))) else ((fPrison_drawSleeps_L24 k_9 g) x0 x2 x3 (xrem (xw64 ((xw64 (1103515245 * x4)) + 12345)) 2147483648) x6 x7 (xw32 (x8 + 1)) M))) else ((fPrison_drawSleeps_L24 k_9 g) x0 x2 x3 (xrem (xw64 ((xw64 (1103515245 * x4)) + 12345)) 2147483648) x6 x7 (xw32 (x8 + 1)) M)) else (if x7 = 0 then (k_9 x0 x2 (xw32 (x3 + 0)) x4 (xw32 (x6 + 1)) M) else (k_9 x0 x2 (xw32 (x3 + 1)) x4 (xw32 (x6 + 1)) M))
theorem hPrison_drawSleeps_L24 (k_9 : Int → Int → Int → Int → Int → xM → Option (Int × xM)) (hk_9 : ∀ (x0 x2 x3 x4 x6 : Int) (M : xM) (r : Int × xM), k_9 x0 x2 x3 x4 x6 M = some r → xEv (260, 9, [some (8, x0), none, some (0, x2), some (0, x3), some (1, x4), none, some (0, x6), none, none], [], M) (some (0, r.1), r.2)) : ∀ (g : Nat) (x0 x2 x3 x4 x6 x7 x8 : Int) (M : xM) (r : Int × xM) (h : fPrison_drawSleeps_L24 k_9 g x0 x2 x3 x4 x6 x7 x8 M = some r), xEv (260, 24, [some (8, x0), none, some (0, x2), some (0, x3), some (1, x4), none, some (0, x6), some (0, x7), some (0, x8)], [], M) (some (0, r.1), r.2)
  | 0, _, _, _, _, _, _, _, _, _, h => by cases h
  | g + 1, x0, x2, x3, x4, x6, x7, x8, M, r, h => by
    unfold fPrison_drawSleeps_L24 at h
    refine xEvG_n xml xfetch 4 (y := (260, if x8 < (M x0 0) then 33 else 103, [some (8, x0), none, some (0, x2), some (0, x3), some (1, x4), none, some (0, x6), some (0, x7), some (0, x8)], [], M)) rfl trivial ?_
    refine xEvG_br xml xfetch (fun c_ => ?_) (fun c_ => ?_)
    · have h := xif_t c_ h
      refine xEvG_n xml xfetch 17 (y := (260, if (xcmpL (xrem (xdivL (xrem (xw64 ((xw64 (1103515245 * x4)) + 12345)) 2147483648) 65536) 100) x2) < 0 then 65 else 97, [some (8, x0), none, some (0, x2), some (0, x3), some (1, (xrem (xw64 ((xw64 (1103515245 * x4)) + 12345)) 2147483648)), none, some (0, x6), some (0, x7), some (0, x8)], [], M)) rfl ⟨by decide, by decide, by decide, trivial⟩ ?_
      refine xEvG_br xml xfetch (fun c_ => ?_) (fun c_ => ?_)
      · have h := xif_t c_ h
        have a0_ := (xA_t h).1
        have h := (xA_t h).2
        refine xEvG_n xml xfetch 5 (y := (260, 74, [some (8, x0), none, some (0, x2), some (0, x3), some (1, (xrem (xw64 ((xw64 (1103515245 * x4)) + 12345)) 2147483648)), none, some (0, x6), some (0, x7), some (0, x8)], [(0, x6), (0, (M (x0 + 5) x8))], M)) rfl ⟨a0_, trivial⟩ ?_
        refine xEvG_call xml xfetch (q := (some (0, fD_bit (M (x0 + 5) x8) x6 M), M)) rfl (hD_bit (M (x0 + 5) x8) x6 M _ rfl) ?_
        show xEv (260, 77, [some (8, x0), none, some (0, x2), some (0, x3), some (1, (xrem (xw64 ((xw64 (1103515245 * x4)) + 12345)) 2147483648)), none, some (0, x6), some (0, x7), some (0, x8)], [(0, (fD_bit (M (x0 + 5) x8) x6 M))], M) _
        refine xEvG_n xml xfetch 1 (y := (260, if (fD_bit (M (x0 + 5) x8) x6 M) = 0 then 80 else 97, [some (8, x0), none, some (0, x2), some (0, x3), some (1, (xrem (xw64 ((xw64 (1103515245 * x4)) + 12345)) 2147483648)), none, some (0, x6), some (0, x7), some (0, x8)], [], M)) rfl trivial ?_
        refine xEvG_br xml xfetch (fun c_ => ?_) (fun c_ => ?_)
        · have h := xif_t c_ h
          have a0_ := (xA_t h).1
          have h := (xA_t h).2
          have a1_ := (xA_t h).1
          have h := (xA_t h).2
          refine xEvG_n xml xfetch 14 (y := (260, 24, [some (8, x0), none, some (0, x2), some (0, x3), some (1, (xrem (xw64 ((xw64 (1103515245 * x4)) + 12345)) 2147483648)), none, some (0, x6), some (0, 1), some (0, (xw32 (x8 + 1)))], [], (xwr M (x0 + 5) x8 (xor32 (M (x0 + 5) x8) (xshl 1 x6))))) rfl ⟨a0_, a1_, trivial⟩ ?_
          refine xEvG_mask xml xfetch [true, false, true, true, true, false, true, true, true] ?_
          exact (hPrison_drawSleeps_L24 k_9 hk_9 g) x0 x2 x3 (xrem (xw64 ((xw64 (1103515245 * x4)) + 12345)) 2147483648) x6 1 (xw32 (x8 + 1)) (xwr M (x0 + 5) x8 (xor32 (M (x0 + 5) x8) (xshl 1 x6))) _ h
        · have h := xif_f c_ h
          refine xEvG_n xml xfetch 2 (y := (260, 24, [some (8, x0), none, some (0, x2), some (0, x3), some (1, (xrem (xw64 ((xw64 (1103515245 * x4)) + 12345)) 2147483648)), none, some (0, x6), some (0, x7), some (0, (xw32 (x8 + 1)))], [], M)) rfl trivial ?_
          refine xEvG_mask xml xfetch [true, false, true, true, true, false, true, true, true] ?_
          exact (hPrison_drawSleeps_L24 k_9 hk_9 g) x0 x2 x3 (xrem (xw64 ((xw64 (1103515245 * x4)) + 12345)) 2147483648) x6 x7 (xw32 (x8 + 1)) M _ h
      · have h := xif_f c_ h
        refine xEvG_n xml xfetch 2 (y := (260, 24, [some (8, x0), none, some (0, x2), some (0, x3), some (1, (xrem (xw64 ((xw64 (1103515245 * x4)) + 12345)) 2147483648)), none, some (0, x6), some (0, x7), some (0, (xw32 (x8 + 1)))], [], M)) rfl trivial ?_
        refine xEvG_mask xml xfetch [true, false, true, true, true, false, true, true, true] ?_
        exact (hPrison_drawSleeps_L24 k_9 hk_9 g) x0 x2 x3 (xrem (xw64 ((xw64 (1103515245 * x4)) + 12345)) 2147483648) x6 x7 (xw32 (x8 + 1)) M _ h
    · have h := xif_f c_ h
      refine xEvG_n xml xfetch 3 (y := (260, if x7 = 0 then 113 else 109, [some (8, x0), none, some (0, x2), some (0, x3), some (1, x4), none, some (0, x6), some (0, x7), some (0, x8)], [(0, x3)], M)) rfl trivial ?_
      refine xEvG_br xml xfetch (fun c_ => ?_) (fun c_ => ?_)
      · have h := xif_t c_ h
        refine xEvG_n xml xfetch 5 (y := (260, 9, [some (8, x0), none, some (0, x2), some (0, (xw32 (x3 + 0))), some (1, x4), none, some (0, (xw32 (x6 + 1))), some (0, x7), some (0, x8)], [], M)) rfl trivial ?_
        refine xEvG_mask xml xfetch [true, false, true, true, true, false, true, false, false] ?_
        exact hk_9 x0 x2 (xw32 (x3 + 0)) x4 (xw32 (x6 + 1)) M _ h
      · have h := xif_f c_ h
        refine xEvG_n xml xfetch 6 (y := (260, 9, [some (8, x0), none, some (0, x2), some (0, (xw32 (x3 + 1))), some (1, x4), none, some (0, (xw32 (x6 + 1))), some (0, x7), some (0, x8)], [], M)) rfl trivial ?_
        refine xEvG_mask xml xfetch [true, false, true, true, true, false, true, false, false] ?_
        exact hk_9 x0 x2 (xw32 (x3 + 1)) x4 (xw32 (x6 + 1)) M _ h
def fPrison_drawSleeps_L9 : Nat → Int → Int → Int → Int → Int → xM → Option (Int × xM)
  | 0, _, _, _, _, _, _ => none
  | g + 1, x0, x2, x3, x4, x6, M => if x6 < (M x0 1) then (fPrison_drawSleeps_L24 (fPrison_drawSleeps_L9 g) 20001 x0 x2 x3 x4 x6 0 0 M) else (some (x3, M))
theorem hPrison_drawSleeps_L9 : ∀ (g : Nat) (x0 x2 x3 x4 x6 : Int) (M : xM) (r : Int × xM) (h : fPrison_drawSleeps_L9 g x0 x2 x3 x4 x6 M = some r), xEv (260, 9, [some (8, x0), none, some (0, x2), some (0, x3), some (1, x4), none, some (0, x6), none, none], [], M) (some (0, r.1), r.2)
  | 0, _, _, _, _, _, _, _, h => by cases h
  | g + 1, x0, x2, x3, x4, x6, M, r, h => by
    unfold fPrison_drawSleeps_L9 at h
    refine xEvG_n xml xfetch 4 (y := (260, if x6 < (M x0 1) then 18 else 122, [some (8, x0), none, some (0, x2), some (0, x3), some (1, x4), none, some (0, x6), none, none], [], M)) rfl trivial ?_
    refine xEvG_br xml xfetch (fun c_ => ?_) (fun c_ => ?_)
    · have h := xif_t c_ h
      refine xEvG_n xml xfetch 4 (y := (260, 24, [some (8, x0), none, some (0, x2), some (0, x3), some (1, x4), none, some (0, x6), some (0, 0), some (0, 0)], [], M)) rfl trivial ?_
      refine xEvG_mask xml xfetch [true, false, true, true, true, false, true, true, true] ?_
      exact hPrison_drawSleeps_L24 (fPrison_drawSleeps_L9 g) (hPrison_drawSleeps_L9 g) 20001 x0 x2 x3 x4 x6 0 0 M _ h
    · have h := xif_f c_ h
      refine xEvG_n xml xfetch 1 (y := (260, 123, [some (8, x0), none, some (0, x2), some (0, x3), some (1, x4), none, some (0, x6), none, none], [(0, x3)], M)) rfl trivial ?_
      cases h
      exact xEvG_ret xml xfetch rfl
/-- ConsentDoors$Prison.drawSleeps(II)I -/
def fPrison_drawSleeps (a0 a1 a2 : Int) (M : xM) : Option (Int × xM) := fPrison_drawSleeps_L9 20001 a0 a2 0 a1 0 M
theorem hPrison_drawSleeps (a0 a1 a2 : Int) (M : xM) (r : Int × xM) (h : fPrison_drawSleeps a0 a1 a2 M = some r) : xEv (260, 0, [some (8, a0), some (0, a1), some (0, a2), none, none, none, none, none, none], [], M) (some (0, r.1), r.2) := by
  unfold fPrison_drawSleeps at h
  refine xEvG_n xml xfetch 7 (y := (260, 9, [some (8, a0), some (0, a1), some (0, a2), some (0, 0), some (1, a1), none, some (0, 0), none, none], [], M)) rfl trivial ?_
  refine xEvG_mask xml xfetch [true, false, true, true, true, false, true, false, false] ?_
  exact hPrison_drawSleeps_L9 20001 a0 a2 0 a1 0 M _ h

/-- ConsentDoors.outInDraft()I -/
def fD_outInDraft (a0 : Int) (M : xM) : Option (Int × xM) := xB (fKeys_read ((a0 + 146) + 1) (a0 + 26) M) (fun m1 => xB (fCourse_follow (a0 + 258) (a0 + 26) ((a0 + 146) + 1) m1) (fun m2 => xB (fCourse_goneAhead (a0 + 258) (m2 (a0 + 26) 1) m2) (fun v3 => some (v3, m2))))
theorem hD_outInDraft (a0 : Int) (M : xM) (r : Int × xM) (h : fD_outInDraft a0 M = some r) : xEv (74, 0, [some (2, a0)], [], M) (some (0, r.1), r.2) := by
  unfold fD_outInDraft at h
  refine xEvG_n xml xfetch 5 (y := (74, 11, [some (2, a0)], [(8, (a0 + 26)), (6, ((a0 + 146) + 1))], M)) rfl trivial ?_
  obtain ⟨m1, e_, h⟩ := xB_t h
  refine xEvG_call xml xfetch (q := (none, m1)) rfl (hKeys_read ((a0 + 146) + 1) (a0 + 26) M _ e_) ?_
  show xEv (74, 14, [some (2, a0)], [], m1) _
  refine xEvG_n xml xfetch 7 (y := (74, 29, [some (2, a0)], [(6, ((a0 + 146) + 1)), (8, (a0 + 26)), (4, (a0 + 258))], m1)) rfl trivial ?_
  obtain ⟨m2, e_, h⟩ := xB_t h
  refine xEvG_call xml xfetch (q := (none, m2)) rfl (hCourse_follow (a0 + 258) (a0 + 26) ((a0 + 146) + 1) m1 _ e_) ?_
  show xEv (74, 32, [some (2, a0)], [], m2) _
  refine xEvG_n xml xfetch 5 (y := (74, 43, [some (2, a0)], [(0, (m2 (a0 + 26) 1)), (4, (a0 + 258))], m2)) rfl trivial ?_
  obtain ⟨v3, e_, h⟩ := xB_t h
  refine xEvG_call xml xfetch (q := (some (0, v3), m2)) rfl (hCourse_goneAhead (a0 + 258) (m2 (a0 + 26) 1) m2 _ e_) ?_
  show xEv (74, 46, [some (2, a0)], [(0, v3)], m2) _
  cases h
  exact xEvG_ret xml xfetch rfl

/-- ConsentDoors.drawn(III)I -/
def fD_drawn (a0 a1 a2 a3 : Int) (M : xM) : Option (Int × xM) := if (fPrison_stands (a0 + 15) M) = 0 then (some ((-2), M)) else (if (fD_isDrawing a1 a2 M) = 0 then (some ((-2), M)) else (if a3 < 0 then (some ((-2), M)) else (if 2 < a3 then (some ((-2), M)) else (xB (fPrison_copy (a0 + 26) (a0 + 15) M) (fun m3 => xB (fPrison_drawSleeps (a0 + 26) a1 a2 m3) (fun q_ => match q_ with | (v4, m4) => if a3 = ((0 : Nat) : Int) then (xB (fD_outInDraft a0 m4) (fun q_ => match q_ with | (v5, m5) => some (v5, m5))) else (if a3 = ((1 : Nat) : Int) then (xB (fD_mostOfDraft a0 m4) (fun q_ => match q_ with | (v6, m6) => some (v6, m6))) else (some (v4, m4)))))))))
theorem hD_drawn (a0 a1 a2 a3 : Int) (M : xM) (r : Int × xM) (h : fD_drawn a0 a1 a2 a3 M = some r) : xEv (72, 0, [some (2, a0), some (0, a1), some (0, a2), some (0, a3), none], [], M) (some (0, r.1), r.2) := by
  unfold fD_drawn at h
  refine xEvG_n xml xfetch 2 (y := (72, 4, [some (2, a0), some (0, a1), some (0, a2), some (0, a3), none], [(8, (a0 + 15))], M)) rfl trivial ?_
  refine xEvG_call xml xfetch (q := (some (0, fPrison_stands (a0 + 15) M), M)) rfl (hPrison_stands (a0 + 15) M _ rfl) ?_
  show xEv (72, 7, [some (2, a0), some (0, a1), some (0, a2), some (0, a3), none], [(0, (fPrison_stands (a0 + 15) M))], M) _
  refine xEvG_n xml xfetch 1 (y := (72, if (fPrison_stands (a0 + 15) M) = 0 then 27 else 10, [some (2, a0), some (0, a1), some (0, a2), some (0, a3), none], [], M)) rfl trivial ?_
  refine xEvG_br xml xfetch (fun c_ => ?_) (fun c_ => ?_)
  · have h := xif_t c_ h
    refine xEvG_n xml xfetch 1 (y := (72, 29, [some (2, a0), some (0, a1), some (0, a2), some (0, a3), none], [(0, (-2))], M)) rfl trivial ?_
    cases h
    exact xEvG_ret xml xfetch rfl
  · have h := xif_f c_ h
    refine xEvG_n xml xfetch 2 (y := (72, 12, [some (2, a0), some (0, a1), some (0, a2), some (0, a3), none], [(0, a2), (0, a1)], M)) rfl trivial ?_
    refine xEvG_call xml xfetch (q := (some (0, fD_isDrawing a1 a2 M), M)) rfl (hD_isDrawing a1 a2 M _ rfl) ?_
    show xEv (72, 15, [some (2, a0), some (0, a1), some (0, a2), some (0, a3), none], [(0, (fD_isDrawing a1 a2 M))], M) _
    refine xEvG_n xml xfetch 1 (y := (72, if (fD_isDrawing a1 a2 M) = 0 then 27 else 18, [some (2, a0), some (0, a1), some (0, a2), some (0, a3), none], [], M)) rfl trivial ?_
    refine xEvG_br xml xfetch (fun c_ => ?_) (fun c_ => ?_)
    · have h := xif_t c_ h
      refine xEvG_n xml xfetch 1 (y := (72, 29, [some (2, a0), some (0, a1), some (0, a2), some (0, a3), none], [(0, (-2))], M)) rfl trivial ?_
      cases h
      exact xEvG_ret xml xfetch rfl
    · have h := xif_f c_ h
      refine xEvG_n xml xfetch 2 (y := (72, if a3 < 0 then 27 else 22, [some (2, a0), some (0, a1), some (0, a2), some (0, a3), none], [], M)) rfl trivial ?_
      refine xEvG_br xml xfetch (fun c_ => ?_) (fun c_ => ?_)
      · have h := xif_t c_ h
        refine xEvG_n xml xfetch 1 (y := (72, 29, [some (2, a0), some (0, a1), some (0, a2), some (0, a3), none], [(0, (-2))], M)) rfl trivial ?_
        cases h
        exact xEvG_ret xml xfetch rfl
      · have h := xif_f c_ h
        refine xEvG_n xml xfetch 3 (y := (72, if 2 < a3 then 27 else 30, [some (2, a0), some (0, a1), some (0, a2), some (0, a3), none], [], M)) rfl trivial ?_
        refine xEvG_br xml xfetch (fun c_ => ?_) (fun c_ => ?_)
        · have h := xif_t c_ h
          refine xEvG_n xml xfetch 1 (y := (72, 29, [some (2, a0), some (0, a1), some (0, a2), some (0, a3), none], [(0, (-2))], M)) rfl trivial ?_
          cases h
          exact xEvG_ret xml xfetch rfl
        · have h := xif_f c_ h
          refine xEvG_n xml xfetch 4 (y := (72, 38, [some (2, a0), some (0, a1), some (0, a2), some (0, a3), none], [(8, (a0 + 15)), (8, (a0 + 26))], M)) rfl trivial ?_
          obtain ⟨m3, e_, h⟩ := xB_t h
          refine xEvG_call xml xfetch (q := (none, m3)) rfl (hPrison_copy (a0 + 26) (a0 + 15) M _ e_) ?_
          show xEv (72, 41, [some (2, a0), some (0, a1), some (0, a2), some (0, a3), none], [], m3) _
          refine xEvG_n xml xfetch 4 (y := (72, 47, [some (2, a0), some (0, a1), some (0, a2), some (0, a3), none], [(0, a2), (0, a1), (8, (a0 + 26))], m3)) rfl trivial ?_
          obtain ⟨⟨v4, m4⟩, e_, h⟩ := xB_t h
          refine xEvG_call xml xfetch (q := (some (0, v4), m4)) rfl (hPrison_drawSleeps (a0 + 26) a1 a2 m3 _ e_) ?_
          show xEv (72, 50, [some (2, a0), some (0, a1), some (0, a2), some (0, a3), none], [(0, v4)], m4) _
          refine xEvG_n xml xfetch 3 (y := (72, (if a3 = ((0 : Nat) : Int) then 80 else (if a3 = ((1 : Nat) : Int) then 85 else 90)), [some (2, a0), some (0, a1), some (0, a2), some (0, a3), some (0, v4)], [], m4)) rfl trivial ?_
          refine xEvG_br xml xfetch (fun c_ => ?_) (fun c_ => ?_)
          · have h := xif_t c_ h
            refine xEvG_n xml xfetch 1 (y := (72, 81, [some (2, a0), some (0, a1), some (0, a2), some (0, a3), some (0, v4)], [(2, a0)], m4)) rfl trivial ?_
            obtain ⟨⟨v5, m5⟩, e_, h⟩ := xB_t h
            refine xEvG_call xml xfetch (q := (some (0, v5), m5)) rfl (hD_outInDraft a0 m4 _ e_) ?_
            show xEv (72, 84, [some (2, a0), some (0, a1), some (0, a2), some (0, a3), some (0, v4)], [(0, v5)], m5) _
            cases h
            exact xEvG_ret xml xfetch rfl
          · have h := xif_f c_ h
            refine xEvG_br xml xfetch (fun c_ => ?_) (fun c_ => ?_)
            · have h := xif_t c_ h
              refine xEvG_n xml xfetch 1 (y := (72, 86, [some (2, a0), some (0, a1), some (0, a2), some (0, a3), some (0, v4)], [(2, a0)], m4)) rfl trivial ?_
              obtain ⟨⟨v6, m6⟩, e_, h⟩ := xB_t h
              refine xEvG_call xml xfetch (q := (some (0, v6), m6)) rfl (hD_mostOfDraft a0 m4 _ e_) ?_
              show xEv (72, 89, [some (2, a0), some (0, a1), some (0, a2), some (0, a3), some (0, v4)], [(0, v6)], m6) _
              cases h
              exact xEvG_ret xml xfetch rfl
            · have h := xif_f c_ h
              refine xEvG_n xml xfetch 1 (y := (72, 92, [some (2, a0), some (0, a1), some (0, a2), some (0, a3), some (0, v4)], [(0, v4)], m4)) rfl trivial ?_
              cases h
              exact xEvG_ret xml xfetch rfl

def fD_chance_L40 : Nat → Int → Int → Int → Int → Int → Int → Int → xM → Option (Int × xM)
  | 0, _, _, _, _, _, _, _, _ => none
  | g + 1, x0, x1, x2, x3, x4, x5, x6, M => if x6 < x2 then (xB (fPrison_copy (x0 + 26) (x0 + 15) M) (fun m3 => xB (fPrison_drawSleeps (x0 + 26) (xw32 (x1 + x6)) x3 m3) (fun q_ => match q_ with | (v4, m4) => xB (fD_outInDraft x0 m4) (fun q_ => match q_ with | (v5, m5) => (fD_chance_L40 g) x0 x1 x2 x3 x4 (xw32 (x5 + (fD_bit v5 x4 m5))) (xw32 (x6 + 1)) m5)))) else (some (x5, M))
theorem hD_chance_L40 : ∀ (g : Nat) (x0 x1 x2 x3 x4 x5 x6 : Int) (M : xM) (r : Int × xM) (h : fD_chance_L40 g x0 x1 x2 x3 x4 x5 x6 M = some r), xEv (73, 40, [some (2, x0), some (0, x1), some (0, x2), some (0, x3), some (0, x4), some (0, x5), some (0, x6)], [], M) (some (0, r.1), r.2)
  | 0, _, _, _, _, _, _, _, _, _, h => by cases h
  | g + 1, x0, x1, x2, x3, x4, x5, x6, M, r, h => by
    unfold fD_chance_L40 at h
    refine xEvG_n xml xfetch 3 (y := (73, if x6 < x2 then 46 else 90, [some (2, x0), some (0, x1), some (0, x2), some (0, x3), some (0, x4), some (0, x5), some (0, x6)], [], M)) rfl trivial ?_
    refine xEvG_br xml xfetch (fun c_ => ?_) (fun c_ => ?_)
    · have h := xif_t c_ h
      refine xEvG_n xml xfetch 4 (y := (73, 54, [some (2, x0), some (0, x1), some (0, x2), some (0, x3), some (0, x4), some (0, x5), some (0, x6)], [(8, (x0 + 15)), (8, (x0 + 26))], M)) rfl trivial ?_
      obtain ⟨m3, e_, h⟩ := xB_t h
      refine xEvG_call xml xfetch (q := (none, m3)) rfl (hPrison_copy (x0 + 26) (x0 + 15) M _ e_) ?_
      show xEv (73, 57, [some (2, x0), some (0, x1), some (0, x2), some (0, x3), some (0, x4), some (0, x5), some (0, x6)], [], m3) _
      refine xEvG_n xml xfetch 6 (y := (73, 66, [some (2, x0), some (0, x1), some (0, x2), some (0, x3), some (0, x4), some (0, x5), some (0, x6)], [(0, x3), (0, (xw32 (x1 + x6))), (8, (x0 + 26))], m3)) rfl trivial ?_
      obtain ⟨⟨v4, m4⟩, e_, h⟩ := xB_t h
      refine xEvG_call xml xfetch (q := (some (0, v4), m4)) rfl (hPrison_drawSleeps (x0 + 26) (xw32 (x1 + x6)) x3 m3 _ e_) ?_
      show xEv (73, 69, [some (2, x0), some (0, x1), some (0, x2), some (0, x3), some (0, x4), some (0, x5), some (0, x6)], [(0, v4)], m4) _
      refine xEvG_n xml xfetch 3 (y := (73, 73, [some (2, x0), some (0, x1), some (0, x2), some (0, x3), some (0, x4), some (0, x5), some (0, x6)], [(2, x0), (0, x5)], m4)) rfl trivial ?_
      obtain ⟨⟨v5, m5⟩, e_, h⟩ := xB_t h
      refine xEvG_call xml xfetch (q := (some (0, v5), m5)) rfl (hD_outInDraft x0 m4 _ e_) ?_
      show xEv (73, 76, [some (2, x0), some (0, x1), some (0, x2), some (0, x3), some (0, x4), some (0, x5), some (0, x6)], [(0, v5), (0, x5)], m5) _
      refine xEvG_n xml xfetch 1 (y := (73, 78, [some (2, x0), some (0, x1), some (0, x2), some (0, x3), some (0, x4), some (0, x5), some (0, x6)], [(0, x4), (0, v5), (0, x5)], m5)) rfl trivial ?_
      refine xEvG_call xml xfetch (q := (some (0, fD_bit v5 x4 m5), m5)) rfl (hD_bit v5 x4 m5 _ rfl) ?_
      show xEv (73, 81, [some (2, x0), some (0, x1), some (0, x2), some (0, x3), some (0, x4), some (0, x5), some (0, x6)], [(0, (fD_bit v5 x4 m5)), (0, x5)], m5) _
      refine xEvG_n xml xfetch 4 (y := (73, 40, [some (2, x0), some (0, x1), some (0, x2), some (0, x3), some (0, x4), some (0, (xw32 (x5 + (fD_bit v5 x4 m5)))), some (0, (xw32 (x6 + 1)))], [], m5)) rfl trivial ?_
      refine xEvG_mask xml xfetch [true, true, true, true, true, true, true] ?_
      exact (hD_chance_L40 g) x0 x1 x2 x3 x4 (xw32 (x5 + (fD_bit v5 x4 m5))) (xw32 (x6 + 1)) m5 _ h
    · have h := xif_f c_ h
      refine xEvG_n xml xfetch 1 (y := (73, 92, [some (2, x0), some (0, x1), some (0, x2), some (0, x3), some (0, x4), some (0, x5), some (0, x6)], [(0, x5)], M)) rfl trivial ?_
      cases h
      exact xEvG_ret xml xfetch rfl
/-- ConsentDoors.chance(IIII)I -/
def fD_chance (a0 a1 a2 a3 a4 : Int) (M : xM) : Option (Int × xM) := if (fPrison_hasCell (a0 + 15) a4 M) = 0 then (some ((-2), M)) else (if (fD_isDrawing a1 a3 M) = 0 then (some ((-2), M)) else (if a2 < 1 then (some ((-2), M)) else (if 20 < a2 then (some ((-2), M)) else (fD_chance_L40 20001 a0 a1 a2 a3 a4 0 0 M))))
theorem hD_chance (a0 a1 a2 a3 a4 : Int) (M : xM) (r : Int × xM) (h : fD_chance a0 a1 a2 a3 a4 M = some r) : xEv (73, 0, [some (2, a0), some (0, a1), some (0, a2), some (0, a3), some (0, a4), none, none], [], M) (some (0, r.1), r.2) := by
  unfold fD_chance at h
  refine xEvG_n xml xfetch 3 (y := (73, 6, [some (2, a0), some (0, a1), some (0, a2), some (0, a3), some (0, a4), none, none], [(0, a4), (8, (a0 + 15))], M)) rfl trivial ?_
  refine xEvG_call xml xfetch (q := (some (0, fPrison_hasCell (a0 + 15) a4 M), M)) rfl (hPrison_hasCell (a0 + 15) a4 M _ rfl) ?_
  show xEv (73, 9, [some (2, a0), some (0, a1), some (0, a2), some (0, a3), some (0, a4), none, none], [(0, (fPrison_hasCell (a0 + 15) a4 M))], M) _
  refine xEvG_n xml xfetch 1 (y := (73, if (fPrison_hasCell (a0 + 15) a4 M) = 0 then 31 else 12, [some (2, a0), some (0, a1), some (0, a2), some (0, a3), some (0, a4), none, none], [], M)) rfl trivial ?_
  refine xEvG_br xml xfetch (fun c_ => ?_) (fun c_ => ?_)
  · have h := xif_t c_ h
    refine xEvG_n xml xfetch 1 (y := (73, 33, [some (2, a0), some (0, a1), some (0, a2), some (0, a3), some (0, a4), none, none], [(0, (-2))], M)) rfl trivial ?_
    cases h
    exact xEvG_ret xml xfetch rfl
  · have h := xif_f c_ h
    refine xEvG_n xml xfetch 2 (y := (73, 14, [some (2, a0), some (0, a1), some (0, a2), some (0, a3), some (0, a4), none, none], [(0, a3), (0, a1)], M)) rfl trivial ?_
    refine xEvG_call xml xfetch (q := (some (0, fD_isDrawing a1 a3 M), M)) rfl (hD_isDrawing a1 a3 M _ rfl) ?_
    show xEv (73, 17, [some (2, a0), some (0, a1), some (0, a2), some (0, a3), some (0, a4), none, none], [(0, (fD_isDrawing a1 a3 M))], M) _
    refine xEvG_n xml xfetch 1 (y := (73, if (fD_isDrawing a1 a3 M) = 0 then 31 else 20, [some (2, a0), some (0, a1), some (0, a2), some (0, a3), some (0, a4), none, none], [], M)) rfl trivial ?_
    refine xEvG_br xml xfetch (fun c_ => ?_) (fun c_ => ?_)
    · have h := xif_t c_ h
      refine xEvG_n xml xfetch 1 (y := (73, 33, [some (2, a0), some (0, a1), some (0, a2), some (0, a3), some (0, a4), none, none], [(0, (-2))], M)) rfl trivial ?_
      cases h
      exact xEvG_ret xml xfetch rfl
    · have h := xif_f c_ h
      refine xEvG_n xml xfetch 3 (y := (73, if a2 < 1 then 31 else 25, [some (2, a0), some (0, a1), some (0, a2), some (0, a3), some (0, a4), none, none], [], M)) rfl trivial ?_
      refine xEvG_br xml xfetch (fun c_ => ?_) (fun c_ => ?_)
      · have h := xif_t c_ h
        refine xEvG_n xml xfetch 1 (y := (73, 33, [some (2, a0), some (0, a1), some (0, a2), some (0, a3), some (0, a4), none, none], [(0, (-2))], M)) rfl trivial ?_
        cases h
        exact xEvG_ret xml xfetch rfl
      · have h := xif_f c_ h
        refine xEvG_n xml xfetch 3 (y := (73, if 20 < a2 then 31 else 34, [some (2, a0), some (0, a1), some (0, a2), some (0, a3), some (0, a4), none, none], [], M)) rfl trivial ?_
        refine xEvG_br xml xfetch (fun c_ => ?_) (fun c_ => ?_)
        · have h := xif_t c_ h
          refine xEvG_n xml xfetch 1 (y := (73, 33, [some (2, a0), some (0, a1), some (0, a2), some (0, a3), some (0, a4), none, none], [(0, (-2))], M)) rfl trivial ?_
          cases h
          exact xEvG_ret xml xfetch rfl
        · have h := xif_f c_ h
          refine xEvG_n xml xfetch 4 (y := (73, 40, [some (2, a0), some (0, a1), some (0, a2), some (0, a3), some (0, a4), some (0, 0), some (0, 0)], [], M)) rfl trivial ?_
          refine xEvG_mask xml xfetch [true, true, true, true, true, true, true] ?_
          exact hD_chance_L40 20001 a0 a1 a2 a3 a4 0 0 M _ h

def fPrison_doorsTried_L4 : Nat → Int → Int → Int → xM → Option Int
  | 0, _, _, _, _ => none
  | g + 1, x0, x1, x2, M => if x2 < (M x0 1) then (xA (0 ≤ x2 ∧ x2 < 24) (if (M (x0 + 10) x2) = (-1) then ((fPrison_doorsTried_L4 g) x0 x1 (xw32 (x2 + 1)) M) else ((fPrison_doorsTried_L4 g) x0 (xw32 (x1 + 1)) (xw32 (x2 + 1)) M))) else (some x1)
theorem hPrison_doorsTried_L4 : ∀ (g : Nat) (x0 x1 x2 : Int) (M : xM) (r : Int) (h : fPrison_doorsTried_L4 g x0 x1 x2 M = some r), xEv (252, 4, [some (8, x0), some (0, x1), some (0, x2)], [], M) (some (0, r), M)
  | 0, _, _, _, _, _, h => by cases h
  | g + 1, x0, x1, x2, M, r, h => by
    unfold fPrison_doorsTried_L4 at h
    refine xEvG_n xml xfetch 4 (y := (252, if x2 < (M x0 1) then 12 else 31, [some (8, x0), some (0, x1), some (0, x2)], [], M)) rfl trivial ?_
    refine xEvG_br xml xfetch (fun c_ => ?_) (fun c_ => ?_)
    · have h := xif_t c_ h
      have a0_ := (xA_t h).1
      have h := (xA_t h).2
      refine xEvG_n xml xfetch 6 (y := (252, if (M (x0 + 10) x2) = (-1) then 25 else 22, [some (8, x0), some (0, x1), some (0, x2)], [], M)) rfl ⟨a0_, trivial⟩ ?_
      refine xEvG_br xml xfetch (fun c_ => ?_) (fun c_ => ?_)
      · have h := xif_t c_ h
        refine xEvG_n xml xfetch 2 (y := (252, 4, [some (8, x0), some (0, x1), some (0, (xw32 (x2 + 1)))], [], M)) rfl trivial ?_
        refine xEvG_mask xml xfetch [true, true, true] ?_
        exact (hPrison_doorsTried_L4 g) x0 x1 (xw32 (x2 + 1)) M _ h
      · have h := xif_f c_ h
        refine xEvG_n xml xfetch 3 (y := (252, 4, [some (8, x0), some (0, (xw32 (x1 + 1))), some (0, (xw32 (x2 + 1)))], [], M)) rfl trivial ?_
        refine xEvG_mask xml xfetch [true, true, true] ?_
        exact (hPrison_doorsTried_L4 g) x0 (xw32 (x1 + 1)) (xw32 (x2 + 1)) M _ h
    · have h := xif_f c_ h
      refine xEvG_n xml xfetch 1 (y := (252, 32, [some (8, x0), some (0, x1), some (0, x2)], [(0, x1)], M)) rfl trivial ?_
      cases h
      exact xEvG_ret xml xfetch rfl
/-- ConsentDoors$Prison.doorsTried()I -/
def fPrison_doorsTried (a0 : Int) (M : xM) : Option Int := fPrison_doorsTried_L4 20001 a0 0 0 M
theorem hPrison_doorsTried (a0 : Int) (M : xM) (r : Int) (h : fPrison_doorsTried a0 M = some r) : xEv (252, 0, [some (8, a0), none, none], [], M) (some (0, r), M) := by
  unfold fPrison_doorsTried at h
  refine xEvG_n xml xfetch 4 (y := (252, 4, [some (8, a0), some (0, 0), some (0, 0)], [], M)) rfl trivial ?_
  refine xEvG_mask xml xfetch [true, true, true] ?_
  exact hPrison_doorsTried_L4 20001 a0 0 0 M _ h

def fD_rowsHeld_L4 : Nat → Int → Int → Int → xM → Option Int
  | 0, _, _, _, _ => none
  | g + 1, x0, x1, x2, M => if x2 < 4 then (xA (0 ≤ x2 ∧ x2 < 4) (if (M ((x0 + 267) + 34 + 2 * x2) 0) = 0 then ((fD_rowsHeld_L4 g) x0 x1 (xw32 (x2 + 1)) M) else ((fD_rowsHeld_L4 g) x0 (xw32 (x1 + 1)) (xw32 (x2 + 1)) M))) else (some x1)
theorem hD_rowsHeld_L4 : ∀ (g : Nat) (x0 x1 x2 : Int) (M : xM) (r : Int) (h : fD_rowsHeld_L4 g x0 x1 x2 M = some r), xEv (76, 4, [some (2, x0), some (0, x1), some (0, x2)], [], M) (some (0, r), M)
  | 0, _, _, _, _, _, h => by cases h
  | g + 1, x0, x1, x2, M, r, h => by
    unfold fD_rowsHeld_L4 at h
    refine xEvG_n xml xfetch 3 (y := (76, if x2 < 4 then 9 else 30, [some (2, x0), some (0, x1), some (0, x2)], [], M)) rfl trivial ?_
    refine xEvG_br xml xfetch (fun c_ => ?_) (fun c_ => ?_)
    · have h := xif_t c_ h
      have a0_ := (xA_t h).1
      have h := (xA_t h).2
      refine xEvG_n xml xfetch 6 (y := (76, if (M ((x0 + 267) + 34 + 2 * x2) 0) = 0 then 24 else 21, [some (2, x0), some (0, x1), some (0, x2)], [], M)) rfl ⟨a0_, trivial⟩ ?_
      refine xEvG_br xml xfetch (fun c_ => ?_) (fun c_ => ?_)
      · have h := xif_t c_ h
        refine xEvG_n xml xfetch 2 (y := (76, 4, [some (2, x0), some (0, x1), some (0, (xw32 (x2 + 1)))], [], M)) rfl trivial ?_
        refine xEvG_mask xml xfetch [true, true, true] ?_
        exact (hD_rowsHeld_L4 g) x0 x1 (xw32 (x2 + 1)) M _ h
      · have h := xif_f c_ h
        refine xEvG_n xml xfetch 3 (y := (76, 4, [some (2, x0), some (0, (xw32 (x1 + 1))), some (0, (xw32 (x2 + 1)))], [], M)) rfl trivial ?_
        refine xEvG_mask xml xfetch [true, true, true] ?_
        exact (hD_rowsHeld_L4 g) x0 (xw32 (x1 + 1)) (xw32 (x2 + 1)) M _ h
    · have h := xif_f c_ h
      refine xEvG_n xml xfetch 1 (y := (76, 31, [some (2, x0), some (0, x1), some (0, x2)], [(0, x1)], M)) rfl trivial ?_
      cases h
      exact xEvG_ret xml xfetch rfl
/-- ConsentDoors.rowsHeld()I -/
def fD_rowsHeld (a0 : Int) (M : xM) : Option Int := fD_rowsHeld_L4 20001 a0 0 0 M
theorem hD_rowsHeld (a0 : Int) (M : xM) (r : Int) (h : fD_rowsHeld a0 M = some r) : xEv (76, 0, [some (2, a0), none, none], [], M) (some (0, r), M) := by
  unfold fD_rowsHeld at h
  refine xEvG_n xml xfetch 4 (y := (76, 4, [some (2, a0), some (0, 0), some (0, 0)], [], M)) rfl trivial ?_
  refine xEvG_mask xml xfetch [true, true, true] ?_
  exact hD_rowsHeld_L4 20001 a0 0 0 M _ h

/-- ConsentDoors.count(I)I -/
def fD_count (a0 a1 : Int) (M : xM) : Option Int := if a1 < 0 then (some (-1)) else (if (a1 - 0) = 0 then (some (M (a0 + 15) 0)) else (if ((a1 - 0) - 1) = 0 then (some (M (a0 + 15) 1)) else (if (((a1 - 0) - 1) - 1) = 0 then (some (fJI_bitCount (M (a0 + 15) 5) M)) else (if ((((a1 - 0) - 1) - 1) - 1) = 0 then (some (M (a0 + 15) 6)) else (if (((((a1 - 0) - 1) - 1) - 1) - 1) = 0 then (some (M (a0 + 15) 7)) else (if ((((((a1 - 0) - 1) - 1) - 1) - 1) - 1) = 0 then (some (M (a0 + 15) 2)) else (if (((((((a1 - 0) - 1) - 1) - 1) - 1) - 1) - 1) = 0 then (some (M ((a0 + 1) + 1) 1)) else (if ((((((((a1 - 0) - 1) - 1) - 1) - 1) - 1) - 1) - 1) = 0 then (some (if (M (a0 + 15) 3) = 0 then 0 else 1 : Int)) else (if (((((((((a1 - 0) - 1) - 1) - 1) - 1) - 1) - 1) - 1) - 1) = 0 then (xB (fPrison_doorsTried (a0 + 15) M) (fun v2 => some v2)) else (if ((((((((((a1 - 0) - 1) - 1) - 1) - 1) - 1) - 1) - 1) - 1) - 1) = 0 then (xB (fD_rowsHeld a0 M) (fun v3 => some v3)) else (some (-1))))))))))))
theorem hD_count (a0 a1 : Int) (M : xM) (r : Int) (h : fD_count a0 a1 M = some r) : xEv (75, 0, [some (2, a0), some (0, a1)], [], M) (some (0, r), M) := by
  unfold fD_count at h
  refine xEvG_n xml xfetch 2 (y := (75, (if a1 < 0 then 147 else (if (a1 - 0) = 0 then 56 else (if ((a1 - 0) - 1) = 0 then 64 else (if (((a1 - 0) - 1) - 1) = 0 then 72 else (if ((((a1 - 0) - 1) - 1) - 1) = 0 then 83 else (if (((((a1 - 0) - 1) - 1) - 1) - 1) = 0 then 91 else (if ((((((a1 - 0) - 1) - 1) - 1) - 1) - 1) = 0 then 99 else (if (((((((a1 - 0) - 1) - 1) - 1) - 1) - 1) - 1) = 0 then 107 else (if ((((((((a1 - 0) - 1) - 1) - 1) - 1) - 1) - 1) - 1) = 0 then 118 else (if (((((((((a1 - 0) - 1) - 1) - 1) - 1) - 1) - 1) - 1) - 1) = 0 then 134 else (if ((((((((((a1 - 0) - 1) - 1) - 1) - 1) - 1) - 1) - 1) - 1) - 1) = 0 then 142 else 147))))))))))), [some (2, a0), some (0, a1)], [], M)) rfl trivial ?_
  refine xEvG_br xml xfetch (fun c_ => ?_) (fun c_ => ?_)
  · have h := xif_t c_ h
    refine xEvG_n xml xfetch 1 (y := (75, 148, [some (2, a0), some (0, a1)], [(0, (-1))], M)) rfl trivial ?_
    cases h
    exact xEvG_ret xml xfetch rfl
  · have h := xif_f c_ h
    refine xEvG_br xml xfetch (fun c_ => ?_) (fun c_ => ?_)
    · have h := xif_t c_ h
      refine xEvG_n xml xfetch 3 (y := (75, 63, [some (2, a0), some (0, a1)], [(0, (M (a0 + 15) 0))], M)) rfl trivial ?_
      cases h
      exact xEvG_ret xml xfetch rfl
    · have h := xif_f c_ h
      refine xEvG_br xml xfetch (fun c_ => ?_) (fun c_ => ?_)
      · have h := xif_t c_ h
        refine xEvG_n xml xfetch 3 (y := (75, 71, [some (2, a0), some (0, a1)], [(0, (M (a0 + 15) 1))], M)) rfl trivial ?_
        cases h
        exact xEvG_ret xml xfetch rfl
      · have h := xif_f c_ h
        refine xEvG_br xml xfetch (fun c_ => ?_) (fun c_ => ?_)
        · have h := xif_t c_ h
          refine xEvG_n xml xfetch 3 (y := (75, 79, [some (2, a0), some (0, a1)], [(0, (M (a0 + 15) 5))], M)) rfl trivial ?_
          refine xEvG_call xml xfetch (q := (some (0, fJI_bitCount (M (a0 + 15) 5) M), M)) rfl (hJI_bitCount (M (a0 + 15) 5) M _ rfl) ?_
          show xEv (75, 82, [some (2, a0), some (0, a1)], [(0, (fJI_bitCount (M (a0 + 15) 5) M))], M) _
          cases h
          exact xEvG_ret xml xfetch rfl
        · have h := xif_f c_ h
          refine xEvG_br xml xfetch (fun c_ => ?_) (fun c_ => ?_)
          · have h := xif_t c_ h
            refine xEvG_n xml xfetch 3 (y := (75, 90, [some (2, a0), some (0, a1)], [(0, (M (a0 + 15) 6))], M)) rfl trivial ?_
            cases h
            exact xEvG_ret xml xfetch rfl
          · have h := xif_f c_ h
            refine xEvG_br xml xfetch (fun c_ => ?_) (fun c_ => ?_)
            · have h := xif_t c_ h
              refine xEvG_n xml xfetch 3 (y := (75, 98, [some (2, a0), some (0, a1)], [(0, (M (a0 + 15) 7))], M)) rfl trivial ?_
              cases h
              exact xEvG_ret xml xfetch rfl
            · have h := xif_f c_ h
              refine xEvG_br xml xfetch (fun c_ => ?_) (fun c_ => ?_)
              · have h := xif_t c_ h
                refine xEvG_n xml xfetch 3 (y := (75, 106, [some (2, a0), some (0, a1)], [(0, (M (a0 + 15) 2))], M)) rfl trivial ?_
                cases h
                exact xEvG_ret xml xfetch rfl
              · have h := xif_f c_ h
                refine xEvG_br xml xfetch (fun c_ => ?_) (fun c_ => ?_)
                · have h := xif_t c_ h
                  refine xEvG_n xml xfetch 4 (y := (75, 117, [some (2, a0), some (0, a1)], [(0, (M ((a0 + 1) + 1) 1))], M)) rfl trivial ?_
                  cases h
                  exact xEvG_ret xml xfetch rfl
                · have h := xif_f c_ h
                  refine xEvG_br xml xfetch (fun c_ => ?_) (fun c_ => ?_)
                  · have h := xif_t c_ h
                    refine xEvG_n xml xfetch 3 (y := (75, 125, [some (2, a0), some (0, a1)], [(0, (M (a0 + 15) 3))], M)) rfl trivial ?_
                    have key_ : xEv (75, 133, [some (2, a0), some (0, a1)], [(0, (if (M (a0 + 15) 3) = 0 then 0 else 1 : Int))], M) (some (0, r), M) := by
                      cases h
                      exact xEvG_ret xml xfetch rfl
                    refine xEvG_n xml xfetch 1 (y := (75, if (M (a0 + 15) 3) = 0 then 132 else 128, [some (2, a0), some (0, a1)], [], M)) rfl trivial ?_
                    refine xEvG_br xml xfetch (fun c20_ => ?_) (fun c20_ => ?_)
                    · refine xEvG_n xml xfetch 1 (y := (75, 133, [some (2, a0), some (0, a1)], [(0, 0)], M)) rfl trivial ?_
                      try simp only [if_pos c20_] at key_
                      try simp only [if_pos c20_]
                      exact key_
                    · refine xEvG_n xml xfetch 2 (y := (75, 133, [some (2, a0), some (0, a1)], [(0, 1)], M)) rfl trivial ?_
                      try simp only [if_neg c20_] at key_
                      try simp only [if_neg c20_]
                      exact key_
                  · have h := xif_f c_ h
                    refine xEvG_br xml xfetch (fun c_ => ?_) (fun c_ => ?_)
                    · have h := xif_t c_ h
                      refine xEvG_n xml xfetch 2 (y := (75, 138, [some (2, a0), some (0, a1)], [(8, (a0 + 15))], M)) rfl trivial ?_
                      obtain ⟨v2, e_, h⟩ := xB_t h
                      refine xEvG_call xml xfetch (q := (some (0, v2), M)) rfl (hPrison_doorsTried (a0 + 15) M _ e_) ?_
                      show xEv (75, 141, [some (2, a0), some (0, a1)], [(0, v2)], M) _
                      cases h
                      exact xEvG_ret xml xfetch rfl
                    · have h := xif_f c_ h
                      refine xEvG_br xml xfetch (fun c_ => ?_) (fun c_ => ?_)
                      · have h := xif_t c_ h
                        refine xEvG_n xml xfetch 1 (y := (75, 143, [some (2, a0), some (0, a1)], [(2, a0)], M)) rfl trivial ?_
                        obtain ⟨v3, e_, h⟩ := xB_t h
                        refine xEvG_call xml xfetch (q := (some (0, v3), M)) rfl (hD_rowsHeld a0 M _ e_) ?_
                        show xEv (75, 146, [some (2, a0), some (0, a1)], [(0, v3)], M) _
                        cases h
                        exact xEvG_ret xml xfetch rfl
                      · have h := xif_f c_ h
                        refine xEvG_n xml xfetch 1 (y := (75, 148, [some (2, a0), some (0, a1)], [(0, (-1))], M)) rfl trivial ?_
                        cases h
                        exact xEvG_ret xml xfetch rfl

/-- ConsentDoors.keep(I)I -/
def fD_keep (a0 a1 : Int) (M : xM) : Option (Int × xM) := if a1 < 0 then (some ((-2), M)) else (if a1 < 3 then (xA (0 ≤ a1 ∧ a1 < 3) (xB (fPrison_copy ((a0 + 265) + 3 + 11 * a1) (a0 + 15) M) (fun m1 => xA (0 ≤ a1 ∧ a1 < 3) (some (0, (xwr m1 (a0 + 266) a1 (xbit 1))))))) else (some ((-2), M)))
theorem hD_keep (a0 a1 : Int) (M : xM) (r : Int × xM) (h : fD_keep a0 a1 M = some r) : xEv (77, 0, [some (2, a0), some (0, a1)], [], M) (some (0, r.1), r.2) := by
  unfold fD_keep at h
  refine xEvG_n xml xfetch 2 (y := (77, if a1 < 0 then 9 else 4, [some (2, a0), some (0, a1)], [], M)) rfl trivial ?_
  refine xEvG_br xml xfetch (fun c_ => ?_) (fun c_ => ?_)
  · have h := xif_t c_ h
    refine xEvG_n xml xfetch 1 (y := (77, 11, [some (2, a0), some (0, a1)], [(0, (-2))], M)) rfl trivial ?_
    cases h
    exact xEvG_ret xml xfetch rfl
  · have h := xif_f c_ h
    refine xEvG_n xml xfetch 3 (y := (77, if a1 < 3 then 12 else 9, [some (2, a0), some (0, a1)], [], M)) rfl trivial ?_
    refine xEvG_br xml xfetch (fun c_ => ?_) (fun c_ => ?_)
    · have h := xif_t c_ h
      have a0_ := (xA_t h).1
      have h := (xA_t h).2
      refine xEvG_n xml xfetch 6 (y := (77, 22, [some (2, a0), some (0, a1)], [(8, (a0 + 15)), (8, ((a0 + 265) + 3 + 11 * a1))], M)) rfl ⟨a0_, trivial⟩ ?_
      obtain ⟨m1, e_, h⟩ := xB_t h
      refine xEvG_call xml xfetch (q := (none, m1)) rfl (hPrison_copy ((a0 + 265) + 3 + 11 * a1) (a0 + 15) M _ e_) ?_
      show xEv (77, 25, [some (2, a0), some (0, a1)], [], m1) _
      have a0_ := (xA_t h).1
      have h := (xA_t h).2
      refine xEvG_n xml xfetch 6 (y := (77, 33, [some (2, a0), some (0, a1)], [(0, 0)], (xwr m1 (a0 + 266) a1 (xbit 1)))) rfl ⟨a0_, trivial⟩ ?_
      cases h
      exact xEvG_ret xml xfetch rfl
    · have h := xif_f c_ h
      refine xEvG_n xml xfetch 1 (y := (77, 11, [some (2, a0), some (0, a1)], [(0, (-2))], M)) rfl trivial ?_
      cases h
      exact xEvG_ret xml xfetch rfl

/-- ConsentDoors.back(I)I -/
def fD_back (a0 a1 : Int) (M : xM) : Option (Int × xM) := if a1 < 0 then (some ((-2), M)) else (if a1 < 3 then (xA (0 ≤ a1 ∧ a1 < 3) (if (M (a0 + 266) a1) = 0 then (some ((-6), M)) else (xA (0 ≤ a1 ∧ a1 < 3) (xB (fPrison_copy (a0 + 15) ((a0 + 265) + 3 + 11 * a1) M) (fun m1 => xB (fD_settle a0 m1) (fun m2 => some (0, m2))))))) else (some ((-2), M)))
theorem hD_back (a0 a1 : Int) (M : xM) (r : Int × xM) (h : fD_back a0 a1 M = some r) : xEv (78, 0, [some (2, a0), some (0, a1)], [], M) (some (0, r.1), r.2) := by
  unfold fD_back at h
  refine xEvG_n xml xfetch 2 (y := (78, if a1 < 0 then 9 else 4, [some (2, a0), some (0, a1)], [], M)) rfl trivial ?_
  refine xEvG_br xml xfetch (fun c_ => ?_) (fun c_ => ?_)
  · have h := xif_t c_ h
    refine xEvG_n xml xfetch 1 (y := (78, 11, [some (2, a0), some (0, a1)], [(0, (-2))], M)) rfl trivial ?_
    cases h
    exact xEvG_ret xml xfetch rfl
  · have h := xif_f c_ h
    refine xEvG_n xml xfetch 3 (y := (78, if a1 < 3 then 12 else 9, [some (2, a0), some (0, a1)], [], M)) rfl trivial ?_
    refine xEvG_br xml xfetch (fun c_ => ?_) (fun c_ => ?_)
    · have h := xif_t c_ h
      have a0_ := (xA_t h).1
      have h := (xA_t h).2
      refine xEvG_n xml xfetch 5 (y := (78, if (M (a0 + 266) a1) = 0 then 21 else 24, [some (2, a0), some (0, a1)], [], M)) rfl ⟨a0_, trivial⟩ ?_
      refine xEvG_br xml xfetch (fun c_ => ?_) (fun c_ => ?_)
      · have h := xif_t c_ h
        refine xEvG_n xml xfetch 1 (y := (78, 23, [some (2, a0), some (0, a1)], [(0, (-6))], M)) rfl trivial ?_
        cases h
        exact xEvG_ret xml xfetch rfl
      · have h := xif_f c_ h
        have a0_ := (xA_t h).1
        have h := (xA_t h).2
        refine xEvG_n xml xfetch 6 (y := (78, 34, [some (2, a0), some (0, a1)], [(8, ((a0 + 265) + 3 + 11 * a1)), (8, (a0 + 15))], M)) rfl ⟨a0_, trivial⟩ ?_
        obtain ⟨m1, e_, h⟩ := xB_t h
        refine xEvG_call xml xfetch (q := (none, m1)) rfl (hPrison_copy (a0 + 15) ((a0 + 265) + 3 + 11 * a1) M _ e_) ?_
        show xEv (78, 37, [some (2, a0), some (0, a1)], [], m1) _
        refine xEvG_n xml xfetch 1 (y := (78, 38, [some (2, a0), some (0, a1)], [(2, a0)], m1)) rfl trivial ?_
        obtain ⟨m2, e_, h⟩ := xB_t h
        refine xEvG_call xml xfetch (q := (none, m2)) rfl (hD_settle a0 m1 _ e_) ?_
        show xEv (78, 41, [some (2, a0), some (0, a1)], [], m2) _
        refine xEvG_n xml xfetch 1 (y := (78, 42, [some (2, a0), some (0, a1)], [(0, 0)], m2)) rfl trivial ?_
        cases h
        exact xEvG_ret xml xfetch rfl
    · have h := xif_f c_ h
      refine xEvG_n xml xfetch 1 (y := (78, 11, [some (2, a0), some (0, a1)], [(0, (-2))], M)) rfl trivial ?_
      cases h
      exact xEvG_ret xml xfetch rfl

def fJA_fill_k28_L6 : Nat → Int → Int → Int → Int → xM → Option xM
  | 0, _, _, _, _, _ => none
  | g + 1, x0, x1, x3, x4, M => if x3 < x4 then (xA (0 ≤ x3 ∧ x3 < 60) ((fJA_fill_k28_L6 g) x0 x1 (xw32 (x3 + 1)) x4 (xwr M x0 x3 x1))) else (some M)
theorem hJA_fill_k28_L6 : ∀ (g : Nat) (x0 x1 x3 x4 : Int) (M : xM) (r : xM) (h : fJA_fill_k28_L6 g x0 x1 x3 x4 M = some r), xEv (302, 6, [some (30, x0), some (1, x1), none, some (0, x3), some (0, x4)], [], M) (none, r)
  | 0, _, _, _, _, _, _, h => by cases h
  | g + 1, x0, x1, x3, x4, M, r, h => by
    unfold fJA_fill_k28_L6 at h
    refine xEvG_n xml xfetch 3 (y := (302, if x3 < x4 then 12 else 22, [some (30, x0), some (1, x1), none, some (0, x3), some (0, x4)], [], M)) rfl trivial ?_
    refine xEvG_br xml xfetch (fun c_ => ?_) (fun c_ => ?_)
    · have h := xif_t c_ h
      have a0_ := (xA_t h).1
      have h := (xA_t h).2
      refine xEvG_n xml xfetch 6 (y := (302, 6, [some (30, x0), some (1, x1), none, some (0, (xw32 (x3 + 1))), some (0, x4)], [], (xwr M x0 x3 x1))) rfl ⟨a0_, trivial⟩ ?_
      refine xEvG_mask xml xfetch [true, true, false, true, true] ?_
      exact (hJA_fill_k28_L6 g) x0 x1 (xw32 (x3 + 1)) x4 (xwr M x0 x3 x1) _ h
    · have h := xif_f c_ h
      cases h
      exact xEvG_ret xml xfetch rfl
/-- java/util/Arrays.fill([JJ)V -/
def fJA_fill_k28 (a0 a1 : Int) (M : xM) : Option xM := fJA_fill_k28_L6 20001 a0 a1 0 60 M
theorem hJA_fill_k28 (a0 a1 : Int) (M : xM) (r : xM) (h : fJA_fill_k28 a0 a1 M = some r) : xEv (302, 0, [some (30, a0), some (1, a1), none, none, none], [], M) (none, r) := by
  unfold fJA_fill_k28 at h
  refine xEvG_n xml xfetch 5 (y := (302, 6, [some (30, a0), some (1, a1), none, some (0, 0), some (0, 60)], [], M)) rfl trivial ?_
  refine xEvG_mask xml xfetch [true, true, false, true, true] ?_
  exact hJA_fill_k28_L6 20001 a0 a1 0 60 M _ h

/-- ConsentDoors$Slot.lay(II)V -/
def fSlot_lay (a0 a1 a2 : Int) (M : xM) : Option xM := xB (fJA_fill_k28 (a0 + 1) 0 (xwr (xwr (xwr M a0 0 1) a0 1 a1) a0 2 a2)) (fun m1 => some m1)
theorem hSlot_lay (a0 a1 a2 : Int) (M : xM) (r : xM) (h : fSlot_lay a0 a1 a2 M = some r) : xEv (289, 0, [some (11, a0), some (0, a1), some (0, a2)], [], M) (none, r) := by
  unfold fSlot_lay at h
  refine xEvG_n xml xfetch 12 (y := (289, 20, [some (11, a0), some (0, a1), some (0, a2)], [(1, 0), (30, (a0 + 1))], (xwr (xwr (xwr M a0 0 1) a0 1 a1) a0 2 a2))) rfl ⟨(Or.inr rfl), trivial⟩ ?_
  obtain ⟨m1, e_, h⟩ := xB_t h
  refine xEvG_call xml xfetch (q := (none, m1)) rfl (hJA_fill_k28 (a0 + 1) 0 (xwr (xwr (xwr M a0 0 1) a0 1 a1) a0 2 a2) _ e_) ?_
  show xEv (289, 23, [some (11, a0), some (0, a1), some (0, a2)], [], m1) _
  cases h
  exact xEvG_ret xml xfetch rfl

/-- ConsentDoors.row(III)I -/
def fD_row (a0 a1 a2 a3 : Int) (M : xM) : Option (Int × xM) := if (fD_isSlot a1 M) = 0 then (some ((-2), M)) else (if a2 < 0 then (some ((-2), M)) else (if a2 < 4 then (if 60 < a3 then (some ((-2), M)) else (if a3 < 0 then (some ((-3), M)) else (xA (0 ≤ a1 ∧ a1 < 4) (xB (fSlot_lay ((a0 + 267) + 34 + 2 * a1) a2 a3 M) (fun m2 => some (0, m2)))))) else (some ((-2), M))))
theorem hD_row (a0 a1 a2 a3 : Int) (M : xM) (r : Int × xM) (h : fD_row a0 a1 a2 a3 M = some r) : xEv (79, 0, [some (2, a0), some (0, a1), some (0, a2), some (0, a3)], [], M) (some (0, r.1), r.2) := by
  unfold fD_row at h
  refine xEvG_n xml xfetch 1 (y := (79, 1, [some (2, a0), some (0, a1), some (0, a2), some (0, a3)], [(0, a1)], M)) rfl trivial ?_
  refine xEvG_call xml xfetch (q := (some (0, fD_isSlot a1 M), M)) rfl (hD_isSlot a1 M _ rfl) ?_
  show xEv (79, 4, [some (2, a0), some (0, a1), some (0, a2), some (0, a3)], [(0, (fD_isSlot a1 M))], M) _
  refine xEvG_n xml xfetch 1 (y := (79, if (fD_isSlot a1 M) = 0 then 22 else 7, [some (2, a0), some (0, a1), some (0, a2), some (0, a3)], [], M)) rfl trivial ?_
  refine xEvG_br xml xfetch (fun c_ => ?_) (fun c_ => ?_)
  · have h := xif_t c_ h
    refine xEvG_n xml xfetch 1 (y := (79, 24, [some (2, a0), some (0, a1), some (0, a2), some (0, a3)], [(0, (-2))], M)) rfl trivial ?_
    cases h
    exact xEvG_ret xml xfetch rfl
  · have h := xif_f c_ h
    refine xEvG_n xml xfetch 2 (y := (79, if a2 < 0 then 22 else 11, [some (2, a0), some (0, a1), some (0, a2), some (0, a3)], [], M)) rfl trivial ?_
    refine xEvG_br xml xfetch (fun c_ => ?_) (fun c_ => ?_)
    · have h := xif_t c_ h
      refine xEvG_n xml xfetch 1 (y := (79, 24, [some (2, a0), some (0, a1), some (0, a2), some (0, a3)], [(0, (-2))], M)) rfl trivial ?_
      cases h
      exact xEvG_ret xml xfetch rfl
    · have h := xif_f c_ h
      refine xEvG_n xml xfetch 3 (y := (79, if a2 < 4 then 16 else 22, [some (2, a0), some (0, a1), some (0, a2), some (0, a3)], [], M)) rfl trivial ?_
      refine xEvG_br xml xfetch (fun c_ => ?_) (fun c_ => ?_)
      · have h := xif_t c_ h
        refine xEvG_n xml xfetch 3 (y := (79, if 60 < a3 then 22 else 25, [some (2, a0), some (0, a1), some (0, a2), some (0, a3)], [], M)) rfl trivial ?_
        refine xEvG_br xml xfetch (fun c_ => ?_) (fun c_ => ?_)
        · have h := xif_t c_ h
          refine xEvG_n xml xfetch 1 (y := (79, 24, [some (2, a0), some (0, a1), some (0, a2), some (0, a3)], [(0, (-2))], M)) rfl trivial ?_
          cases h
          exact xEvG_ret xml xfetch rfl
        · have h := xif_f c_ h
          refine xEvG_n xml xfetch 2 (y := (79, if a3 < 0 then 29 else 32, [some (2, a0), some (0, a1), some (0, a2), some (0, a3)], [], M)) rfl trivial ?_
          refine xEvG_br xml xfetch (fun c_ => ?_) (fun c_ => ?_)
          · have h := xif_t c_ h
            refine xEvG_n xml xfetch 1 (y := (79, 31, [some (2, a0), some (0, a1), some (0, a2), some (0, a3)], [(0, (-3))], M)) rfl trivial ?_
            cases h
            exact xEvG_ret xml xfetch rfl
          · have h := xif_f c_ h
            have a0_ := (xA_t h).1
            have h := (xA_t h).2
            refine xEvG_n xml xfetch 6 (y := (79, 40, [some (2, a0), some (0, a1), some (0, a2), some (0, a3)], [(0, a3), (0, a2), (11, ((a0 + 267) + 34 + 2 * a1))], M)) rfl ⟨a0_, trivial⟩ ?_
            obtain ⟨m2, e_, h⟩ := xB_t h
            refine xEvG_call xml xfetch (q := (none, m2)) rfl (hSlot_lay ((a0 + 267) + 34 + 2 * a1) a2 a3 M _ e_) ?_
            show xEv (79, 43, [some (2, a0), some (0, a1), some (0, a2), some (0, a3)], [], m2) _
            refine xEvG_n xml xfetch 1 (y := (79, 44, [some (2, a0), some (0, a1), some (0, a2), some (0, a3)], [(0, 0)], m2)) rfl trivial ?_
            cases h
            exact xEvG_ret xml xfetch rfl
      · have h := xif_f c_ h
        refine xEvG_n xml xfetch 1 (y := (79, 24, [some (2, a0), some (0, a1), some (0, a2), some (0, a3)], [(0, (-2))], M)) rfl trivial ?_
        cases h
        exact xEvG_ret xml xfetch rfl

/-- ConsentDoors$Slot.put(IJ)V -/
def fSlot_put (a0 a1 a2 : Int) (M : xM) : Option xM := if (M a0 1) < 0 then (xA (0 ≤ a1 ∧ a1 < 60) (some (xwr M (a0 + 1) a1 a2))) else (if ((M a0 1) - 0) = 0 then (xA (0 ≤ a1 ∧ a1 < 60) (some (xwr M (a0 + 1) a1 (xw8 (xw32 a2))))) else (if (((M a0 1) - 0) - 1) = 0 then (xA (0 ≤ a1 ∧ a1 < 60) (some (xwr M (a0 + 1) a1 (xw16 (xw32 a2))))) else (if ((((M a0 1) - 0) - 1) - 1) = 0 then (xA (0 ≤ a1 ∧ a1 < 60) (some (xwr M (a0 + 1) a1 (xw32 a2)))) else (xA (0 ≤ a1 ∧ a1 < 60) (some (xwr M (a0 + 1) a1 a2))))))
theorem hSlot_put (a0 a1 a2 : Int) (M : xM) (r : xM) (h : fSlot_put a0 a1 a2 M = some r) : xEv (290, 0, [some (11, a0), some (0, a1), some (1, a2), none], [], M) (none, r) := by
  unfold fSlot_put at h
  refine xEvG_n xml xfetch 3 (y := (290, (if (M a0 1) < 0 then 70 else (if ((M a0 1) - 0) = 0 then 32 else (if (((M a0 1) - 0) - 1) = 0 then 45 else (if ((((M a0 1) - 0) - 1) - 1) = 0 then 58 else 70)))), [some (11, a0), some (0, a1), some (1, a2), none], [], M)) rfl trivial ?_
  refine xEvG_br xml xfetch (fun c_ => ?_) (fun c_ => ?_)
  · have h := xif_t c_ h
    have a0_ := (xA_t h).1
    have h := (xA_t h).2
    refine xEvG_n xml xfetch 5 (y := (290, 77, [some (11, a0), some (0, a1), some (1, a2), none], [], (xwr M (a0 + 1) a1 a2))) rfl ⟨a0_, trivial⟩ ?_
    cases h
    exact xEvG_ret xml xfetch rfl
  · have h := xif_f c_ h
    refine xEvG_br xml xfetch (fun c_ => ?_) (fun c_ => ?_)
    · have h := xif_t c_ h
      have a0_ := (xA_t h).1
      have h := (xA_t h).2
      refine xEvG_n xml xfetch 9 (y := (290, 77, [some (11, a0), some (0, a1), some (1, a2), none], [], (xwr M (a0 + 1) a1 (xw8 (xw32 a2))))) rfl ⟨a0_, trivial⟩ ?_
      cases h
      exact xEvG_ret xml xfetch rfl
    · have h := xif_f c_ h
      refine xEvG_br xml xfetch (fun c_ => ?_) (fun c_ => ?_)
      · have h := xif_t c_ h
        have a0_ := (xA_t h).1
        have h := (xA_t h).2
        refine xEvG_n xml xfetch 9 (y := (290, 77, [some (11, a0), some (0, a1), some (1, a2), none], [], (xwr M (a0 + 1) a1 (xw16 (xw32 a2))))) rfl ⟨a0_, trivial⟩ ?_
        cases h
        exact xEvG_ret xml xfetch rfl
      · have h := xif_f c_ h
        refine xEvG_br xml xfetch (fun c_ => ?_) (fun c_ => ?_)
        · have h := xif_t c_ h
          have a0_ := (xA_t h).1
          have h := (xA_t h).2
          refine xEvG_n xml xfetch 8 (y := (290, 77, [some (11, a0), some (0, a1), some (1, a2), none], [], (xwr M (a0 + 1) a1 (xw32 a2)))) rfl ⟨a0_, trivial⟩ ?_
          cases h
          exact xEvG_ret xml xfetch rfl
        · have h := xif_f c_ h
          have a0_ := (xA_t h).1
          have h := (xA_t h).2
          refine xEvG_n xml xfetch 5 (y := (290, 77, [some (11, a0), some (0, a1), some (1, a2), none], [], (xwr M (a0 + 1) a1 a2))) rfl ⟨a0_, trivial⟩ ?_
          cases h
          exact xEvG_ret xml xfetch rfl

/-- ConsentDoors.write(IIJ)I -/
def fD_write (a0 a1 a2 a3 : Int) (M : xM) : Option (Int × xM) := if (fD_isSlot a1 M) = 0 then (some ((-2), M)) else (xA (0 ≤ a1 ∧ a1 < 4) (if (M ((a0 + 267) + 34 + 2 * a1) 0) = 0 then (some ((-6), M)) else (if a2 < 0 then (some ((-7), M)) else (xA (0 ≤ a1 ∧ a1 < 4) (if a2 < (M ((a0 + 267) + 34 + 2 * a1) 2) then (xA (0 ≤ a1 ∧ a1 < 4) (xB (fSlot_put ((a0 + 267) + 34 + 2 * a1) a2 a3 M) (fun m2 => some (0, m2)))) else (some ((-7), M)))))))
theorem hD_write (a0 a1 a2 a3 : Int) (M : xM) (r : Int × xM) (h : fD_write a0 a1 a2 a3 M = some r) : xEv (80, 0, [some (2, a0), some (0, a1), some (0, a2), some (1, a3), none], [], M) (some (0, r.1), r.2) := by
  unfold fD_write at h
  refine xEvG_n xml xfetch 1 (y := (80, 1, [some (2, a0), some (0, a1), some (0, a2), some (1, a3), none], [(0, a1)], M)) rfl trivial ?_
  refine xEvG_call xml xfetch (q := (some (0, fD_isSlot a1 M), M)) rfl (hD_isSlot a1 M _ rfl) ?_
  show xEv (80, 4, [some (2, a0), some (0, a1), some (0, a2), some (1, a3), none], [(0, (fD_isSlot a1 M))], M) _
  refine xEvG_n xml xfetch 1 (y := (80, if (fD_isSlot a1 M) = 0 then 7 else 10, [some (2, a0), some (0, a1), some (0, a2), some (1, a3), none], [], M)) rfl trivial ?_
  refine xEvG_br xml xfetch (fun c_ => ?_) (fun c_ => ?_)
  · have h := xif_t c_ h
    refine xEvG_n xml xfetch 1 (y := (80, 9, [some (2, a0), some (0, a1), some (0, a2), some (1, a3), none], [(0, (-2))], M)) rfl trivial ?_
    cases h
    exact xEvG_ret xml xfetch rfl
  · have h := xif_f c_ h
    have a0_ := (xA_t h).1
    have h := (xA_t h).2
    refine xEvG_n xml xfetch 6 (y := (80, if (M ((a0 + 267) + 34 + 2 * a1) 0) = 0 then 22 else 25, [some (2, a0), some (0, a1), some (0, a2), some (1, a3), none], [], M)) rfl ⟨a0_, trivial⟩ ?_
    refine xEvG_br xml xfetch (fun c_ => ?_) (fun c_ => ?_)
    · have h := xif_t c_ h
      refine xEvG_n xml xfetch 1 (y := (80, 24, [some (2, a0), some (0, a1), some (0, a2), some (1, a3), none], [(0, (-6))], M)) rfl trivial ?_
      cases h
      exact xEvG_ret xml xfetch rfl
    · have h := xif_f c_ h
      refine xEvG_n xml xfetch 2 (y := (80, if a2 < 0 then 42 else 29, [some (2, a0), some (0, a1), some (0, a2), some (1, a3), none], [], M)) rfl trivial ?_
      refine xEvG_br xml xfetch (fun c_ => ?_) (fun c_ => ?_)
      · have h := xif_t c_ h
        refine xEvG_n xml xfetch 1 (y := (80, 44, [some (2, a0), some (0, a1), some (0, a2), some (1, a3), none], [(0, (-7))], M)) rfl trivial ?_
        cases h
        exact xEvG_ret xml xfetch rfl
      · have h := xif_f c_ h
        have a0_ := (xA_t h).1
        have h := (xA_t h).2
        refine xEvG_n xml xfetch 7 (y := (80, if a2 < (M ((a0 + 267) + 34 + 2 * a1) 2) then 45 else 42, [some (2, a0), some (0, a1), some (0, a2), some (1, a3), none], [], M)) rfl ⟨a0_, trivial⟩ ?_
        refine xEvG_br xml xfetch (fun c_ => ?_) (fun c_ => ?_)
        · have h := xif_t c_ h
          have a0_ := (xA_t h).1
          have h := (xA_t h).2
          refine xEvG_n xml xfetch 6 (y := (80, 53, [some (2, a0), some (0, a1), some (0, a2), some (1, a3), none], [(1, a3), (0, a2), (11, ((a0 + 267) + 34 + 2 * a1))], M)) rfl ⟨a0_, trivial⟩ ?_
          obtain ⟨m2, e_, h⟩ := xB_t h
          refine xEvG_call xml xfetch (q := (none, m2)) rfl (hSlot_put ((a0 + 267) + 34 + 2 * a1) a2 a3 M _ e_) ?_
          show xEv (80, 56, [some (2, a0), some (0, a1), some (0, a2), some (1, a3), none], [], m2) _
          refine xEvG_n xml xfetch 1 (y := (80, 57, [some (2, a0), some (0, a1), some (0, a2), some (1, a3), none], [(0, 0)], m2)) rfl trivial ?_
          cases h
          exact xEvG_ret xml xfetch rfl
        · have h := xif_f c_ h
          refine xEvG_n xml xfetch 1 (y := (80, 44, [some (2, a0), some (0, a1), some (0, a2), some (1, a3), none], [(0, (-7))], M)) rfl trivial ?_
          cases h
          exact xEvG_ret xml xfetch rfl

/-- ConsentDoors$Slot.holds(II)Z -/
def fSlot_holds (a0 a1 a2 : Int) (M : xM) : Int := (if a1 < 0 then 0 else (if a2 < 0 then 0 else (if (M a0 2) < a1 then 0 else (if (xw32 ((M a0 2) - a1)) < a2 then 0 else 1 : Int) : Int) : Int) : Int)
theorem hSlot_holds (a0 a1 a2 : Int) (M : xM) (r : Int) (h : fSlot_holds a0 a1 a2 M = r) : xEv (291, 0, [some (11, a0), some (0, a1), some (0, a2)], [], M) (some (0, r), M) := by
  unfold fSlot_holds at h
  refine xEvG_n xml xfetch 1 (y := (291, 1, [some (11, a0), some (0, a1), some (0, a2)], [(0, a1)], M)) rfl trivial ?_
  have key_ : xEv (291, 31, [some (11, a0), some (0, a1), some (0, a2)], [(0, (if a1 < 0 then 0 else (if a2 < 0 then 0 else (if (M a0 2) < a1 then 0 else (if (xw32 ((M a0 2) - a1)) < a2 then 0 else 1 : Int) : Int) : Int) : Int))], M) (some (0, r), M) := by
    subst h
    exact xEvG_retc xml xfetch rfl (by (repeat' split) <;> first | exact Or.inl rfl | exact Or.inr rfl)
  refine xEvG_n xml xfetch 1 (y := (291, if a1 < 0 then 30 else 4, [some (11, a0), some (0, a1), some (0, a2)], [], M)) rfl trivial ?_
  refine xEvG_br xml xfetch (fun c2_ => ?_) (fun c2_ => ?_)
  · refine xEvG_n xml xfetch 1 (y := (291, 31, [some (11, a0), some (0, a1), some (0, a2)], [(0, 0)], M)) rfl trivial ?_
    try simp only [if_pos c2_] at key_
    try simp only [if_pos c2_]
    exact key_
  · refine xEvG_n xml xfetch 2 (y := (291, if a2 < 0 then 30 else 8, [some (11, a0), some (0, a1), some (0, a2)], [], M)) rfl trivial ?_
    refine xEvG_br xml xfetch (fun c4_ => ?_) (fun c4_ => ?_)
    · refine xEvG_n xml xfetch 1 (y := (291, 31, [some (11, a0), some (0, a1), some (0, a2)], [(0, 0)], M)) rfl trivial ?_
      try simp only [if_neg c2_, if_pos c4_] at key_
      try simp only [if_neg c2_, if_pos c4_]
      exact key_
    · refine xEvG_n xml xfetch 4 (y := (291, if (M a0 2) < a1 then 30 else 16, [some (11, a0), some (0, a1), some (0, a2)], [], M)) rfl trivial ?_
      refine xEvG_br xml xfetch (fun c6_ => ?_) (fun c6_ => ?_)
      · refine xEvG_n xml xfetch 1 (y := (291, 31, [some (11, a0), some (0, a1), some (0, a2)], [(0, 0)], M)) rfl trivial ?_
        try simp only [if_neg c2_, if_neg c4_, if_pos c6_] at key_
        try simp only [if_neg c2_, if_neg c4_, if_pos c6_]
        exact key_
      · refine xEvG_n xml xfetch 6 (y := (291, if (xw32 ((M a0 2) - a1)) < a2 then 30 else 26, [some (11, a0), some (0, a1), some (0, a2)], [], M)) rfl trivial ?_
        refine xEvG_br xml xfetch (fun c8_ => ?_) (fun c8_ => ?_)
        · refine xEvG_n xml xfetch 1 (y := (291, 31, [some (11, a0), some (0, a1), some (0, a2)], [(0, 0)], M)) rfl trivial ?_
          try simp only [if_neg c2_, if_neg c4_, if_neg c6_, if_pos c8_] at key_
          try simp only [if_neg c2_, if_neg c4_, if_neg c6_, if_pos c8_]
          exact key_
        · refine xEvG_n xml xfetch 2 (y := (291, 31, [some (11, a0), some (0, a1), some (0, a2)], [(0, 1)], M)) rfl trivial ?_
          try simp only [if_neg c2_, if_neg c4_, if_neg c6_, if_neg c8_] at key_
          try simp only [if_neg c2_, if_neg c4_, if_neg c6_, if_neg c8_]
          exact key_
theorem bSlot_holds (a0 a1 a2 : Int) (M : xM) : fSlot_holds a0 a1 a2 M = 0 ∨ fSlot_holds a0 a1 a2 M = 1 := by
  unfold fSlot_holds
  (repeat' split) <;> first | exact Or.inl rfl | exact Or.inr rfl | exact bD_isDrawing _ _ _ | exact bD_isPoints _ _ | exact bD_isSide _ _ | exact bD_isSlot _ _ | exact bPrison_hasCell _ _ _ | exact bPrison_hasHour _ _ _ | exact bPrison_stands _ _ | exact bSlot_isBelow _ _ _

/-- ConsentDoors.paste(IIIII)I -/
def fD_paste (a0 a1 a2 a3 a4 a5 : Int) (M : xM) : Option (Int × xM) := if (fD_isSlot a1 M) = 0 then (some ((-2), M)) else (if (fD_isSlot a3 M) = 0 then (some ((-2), M)) else (xA (0 ≤ a1 ∧ a1 < 4) (xA (0 ≤ a3 ∧ a3 < 4) (if (M ((a0 + 267) + 34 + 2 * a1) 0) = 0 then (some ((-6), M)) else (if (M ((a0 + 267) + 34 + 2 * a3) 0) = 0 then (some ((-6), M)) else (if (M ((a0 + 267) + 34 + 2 * a1) 1) = (M ((a0 + 267) + 34 + 2 * a3) 1) then (if (fSlot_holds ((a0 + 267) + 34 + 2 * a1) a2 a5 M) = 0 then (some ((-7), M)) else (if (fSlot_holds ((a0 + 267) + 34 + 2 * a3) a4 a5 M) = 0 then (some ((-7), M)) else (xA ((0 : Int) ≤ a5 ∧ (0 : Int) ≤ a2 ∧ (0 : Int) ≤ a4 ∧ (a2 : Int) + a5 ≤ 60 ∧ (a4 : Int) + a5 ≤ 60) (some (0, (xcpy M (((a0 + 267) + 34 + 2 * a1) + 1) a2 (((a0 + 267) + 34 + 2 * a3) + 1) a4 a5)))))) else (some ((-8), M))))))))
theorem hD_paste (a0 a1 a2 a3 a4 a5 : Int) (M : xM) (r : Int × xM) (h : fD_paste a0 a1 a2 a3 a4 a5 M = some r) : xEv (81, 0, [some (2, a0), some (0, a1), some (0, a2), some (0, a3), some (0, a4), some (0, a5), none, none], [], M) (some (0, r.1), r.2) := by
  unfold fD_paste at h
  refine xEvG_n xml xfetch 1 (y := (81, 1, [some (2, a0), some (0, a1), some (0, a2), some (0, a3), some (0, a4), some (0, a5), none, none], [(0, a1)], M)) rfl trivial ?_
  refine xEvG_call xml xfetch (q := (some (0, fD_isSlot a1 M), M)) rfl (hD_isSlot a1 M _ rfl) ?_
  show xEv (81, 4, [some (2, a0), some (0, a1), some (0, a2), some (0, a3), some (0, a4), some (0, a5), none, none], [(0, (fD_isSlot a1 M))], M) _
  refine xEvG_n xml xfetch 1 (y := (81, if (fD_isSlot a1 M) = 0 then 14 else 7, [some (2, a0), some (0, a1), some (0, a2), some (0, a3), some (0, a4), some (0, a5), none, none], [], M)) rfl trivial ?_
  refine xEvG_br xml xfetch (fun c_ => ?_) (fun c_ => ?_)
  · have h := xif_t c_ h
    refine xEvG_n xml xfetch 1 (y := (81, 16, [some (2, a0), some (0, a1), some (0, a2), some (0, a3), some (0, a4), some (0, a5), none, none], [(0, (-2))], M)) rfl trivial ?_
    cases h
    exact xEvG_ret xml xfetch rfl
  · have h := xif_f c_ h
    refine xEvG_n xml xfetch 1 (y := (81, 8, [some (2, a0), some (0, a1), some (0, a2), some (0, a3), some (0, a4), some (0, a5), none, none], [(0, a3)], M)) rfl trivial ?_
    refine xEvG_call xml xfetch (q := (some (0, fD_isSlot a3 M), M)) rfl (hD_isSlot a3 M _ rfl) ?_
    show xEv (81, 11, [some (2, a0), some (0, a1), some (0, a2), some (0, a3), some (0, a4), some (0, a5), none, none], [(0, (fD_isSlot a3 M))], M) _
    refine xEvG_n xml xfetch 1 (y := (81, if (fD_isSlot a3 M) = 0 then 14 else 17, [some (2, a0), some (0, a1), some (0, a2), some (0, a3), some (0, a4), some (0, a5), none, none], [], M)) rfl trivial ?_
    refine xEvG_br xml xfetch (fun c_ => ?_) (fun c_ => ?_)
    · have h := xif_t c_ h
      refine xEvG_n xml xfetch 1 (y := (81, 16, [some (2, a0), some (0, a1), some (0, a2), some (0, a3), some (0, a4), some (0, a5), none, none], [(0, (-2))], M)) rfl trivial ?_
      cases h
      exact xEvG_ret xml xfetch rfl
    · have h := xif_f c_ h
      have a0_ := (xA_t h).1
      have h := (xA_t h).2
      have a1_ := (xA_t h).1
      have h := (xA_t h).2
      refine xEvG_n xml xfetch 13 (y := (81, if (M ((a0 + 267) + 34 + 2 * a1) 0) = 0 then 49 else 41, [some (2, a0), some (0, a1), some (0, a2), some (0, a3), some (0, a4), some (0, a5), some (11, ((a0 + 267) + 34 + 2 * a1)), some (11, ((a0 + 267) + 34 + 2 * a3))], [], M)) rfl ⟨a0_, a1_, trivial⟩ ?_
      refine xEvG_br xml xfetch (fun c_ => ?_) (fun c_ => ?_)
      · have h := xif_t c_ h
        refine xEvG_n xml xfetch 1 (y := (81, 51, [some (2, a0), some (0, a1), some (0, a2), some (0, a3), some (0, a4), some (0, a5), some (11, ((a0 + 267) + 34 + 2 * a1)), some (11, ((a0 + 267) + 34 + 2 * a3))], [(0, (-6))], M)) rfl trivial ?_
        cases h
        exact xEvG_ret xml xfetch rfl
      · have h := xif_f c_ h
        refine xEvG_n xml xfetch 3 (y := (81, if (M ((a0 + 267) + 34 + 2 * a3) 0) = 0 then 49 else 52, [some (2, a0), some (0, a1), some (0, a2), some (0, a3), some (0, a4), some (0, a5), some (11, ((a0 + 267) + 34 + 2 * a1)), some (11, ((a0 + 267) + 34 + 2 * a3))], [], M)) rfl trivial ?_
        refine xEvG_br xml xfetch (fun c_ => ?_) (fun c_ => ?_)
        · have h := xif_t c_ h
          refine xEvG_n xml xfetch 1 (y := (81, 51, [some (2, a0), some (0, a1), some (0, a2), some (0, a3), some (0, a4), some (0, a5), some (11, ((a0 + 267) + 34 + 2 * a1)), some (11, ((a0 + 267) + 34 + 2 * a3))], [(0, (-6))], M)) rfl trivial ?_
          cases h
          exact xEvG_ret xml xfetch rfl
        · have h := xif_f c_ h
          refine xEvG_n xml xfetch 5 (y := (81, if (M ((a0 + 267) + 34 + 2 * a1) 1) = (M ((a0 + 267) + 34 + 2 * a3) 1) then 68 else 65, [some (2, a0), some (0, a1), some (0, a2), some (0, a3), some (0, a4), some (0, a5), some (11, ((a0 + 267) + 34 + 2 * a1)), some (11, ((a0 + 267) + 34 + 2 * a3))], [], M)) rfl trivial ?_
          refine xEvG_br xml xfetch (fun c_ => ?_) (fun c_ => ?_)
          · have h := xif_t c_ h
            refine xEvG_n xml xfetch 3 (y := (81, 73, [some (2, a0), some (0, a1), some (0, a2), some (0, a3), some (0, a4), some (0, a5), some (11, ((a0 + 267) + 34 + 2 * a1)), some (11, ((a0 + 267) + 34 + 2 * a3))], [(0, a5), (0, a2), (11, ((a0 + 267) + 34 + 2 * a1))], M)) rfl trivial ?_
            refine xEvG_call xml xfetch (q := (some (0, fSlot_holds ((a0 + 267) + 34 + 2 * a1) a2 a5 M), M)) rfl (hSlot_holds ((a0 + 267) + 34 + 2 * a1) a2 a5 M _ rfl) ?_
            show xEv (81, 76, [some (2, a0), some (0, a1), some (0, a2), some (0, a3), some (0, a4), some (0, a5), some (11, ((a0 + 267) + 34 + 2 * a1)), some (11, ((a0 + 267) + 34 + 2 * a3))], [(0, (fSlot_holds ((a0 + 267) + 34 + 2 * a1) a2 a5 M))], M) _
            refine xEvG_n xml xfetch 1 (y := (81, if (fSlot_holds ((a0 + 267) + 34 + 2 * a1) a2 a5 M) = 0 then 91 else 79, [some (2, a0), some (0, a1), some (0, a2), some (0, a3), some (0, a4), some (0, a5), some (11, ((a0 + 267) + 34 + 2 * a1)), some (11, ((a0 + 267) + 34 + 2 * a3))], [], M)) rfl trivial ?_
            refine xEvG_br xml xfetch (fun c_ => ?_) (fun c_ => ?_)
            · have h := xif_t c_ h
              refine xEvG_n xml xfetch 1 (y := (81, 93, [some (2, a0), some (0, a1), some (0, a2), some (0, a3), some (0, a4), some (0, a5), some (11, ((a0 + 267) + 34 + 2 * a1)), some (11, ((a0 + 267) + 34 + 2 * a3))], [(0, (-7))], M)) rfl trivial ?_
              cases h
              exact xEvG_ret xml xfetch rfl
            · have h := xif_f c_ h
              refine xEvG_n xml xfetch 3 (y := (81, 85, [some (2, a0), some (0, a1), some (0, a2), some (0, a3), some (0, a4), some (0, a5), some (11, ((a0 + 267) + 34 + 2 * a1)), some (11, ((a0 + 267) + 34 + 2 * a3))], [(0, a5), (0, a4), (11, ((a0 + 267) + 34 + 2 * a3))], M)) rfl trivial ?_
              refine xEvG_call xml xfetch (q := (some (0, fSlot_holds ((a0 + 267) + 34 + 2 * a3) a4 a5 M), M)) rfl (hSlot_holds ((a0 + 267) + 34 + 2 * a3) a4 a5 M _ rfl) ?_
              show xEv (81, 88, [some (2, a0), some (0, a1), some (0, a2), some (0, a3), some (0, a4), some (0, a5), some (11, ((a0 + 267) + 34 + 2 * a1)), some (11, ((a0 + 267) + 34 + 2 * a3))], [(0, (fSlot_holds ((a0 + 267) + 34 + 2 * a3) a4 a5 M))], M) _
              refine xEvG_n xml xfetch 1 (y := (81, if (fSlot_holds ((a0 + 267) + 34 + 2 * a3) a4 a5 M) = 0 then 91 else 94, [some (2, a0), some (0, a1), some (0, a2), some (0, a3), some (0, a4), some (0, a5), some (11, ((a0 + 267) + 34 + 2 * a1)), some (11, ((a0 + 267) + 34 + 2 * a3))], [], M)) rfl trivial ?_
              refine xEvG_br xml xfetch (fun c_ => ?_) (fun c_ => ?_)
              · have h := xif_t c_ h
                refine xEvG_n xml xfetch 1 (y := (81, 93, [some (2, a0), some (0, a1), some (0, a2), some (0, a3), some (0, a4), some (0, a5), some (11, ((a0 + 267) + 34 + 2 * a1)), some (11, ((a0 + 267) + 34 + 2 * a3))], [(0, (-7))], M)) rfl trivial ?_
                cases h
                exact xEvG_ret xml xfetch rfl
              · have h := xif_f c_ h
                have a0_ := (xA_t h).1
                have h := (xA_t h).2
                refine xEvG_n xml xfetch 9 (y := (81, 113, [some (2, a0), some (0, a1), some (0, a2), some (0, a3), some (0, a4), some (0, a5), some (11, ((a0 + 267) + 34 + 2 * a1)), some (11, ((a0 + 267) + 34 + 2 * a3))], [(0, 0)], (xcpy M (((a0 + 267) + 34 + 2 * a1) + 1) a2 (((a0 + 267) + 34 + 2 * a3) + 1) a4 a5))) rfl ⟨a0_, trivial⟩ ?_
                cases h
                exact xEvG_ret xml xfetch rfl
          · have h := xif_f c_ h
            refine xEvG_n xml xfetch 1 (y := (81, 67, [some (2, a0), some (0, a1), some (0, a2), some (0, a3), some (0, a4), some (0, a5), some (11, ((a0 + 267) + 34 + 2 * a1)), some (11, ((a0 + 267) + 34 + 2 * a3))], [(0, (-8))], M)) rfl trivial ?_
            cases h
            exact xEvG_ret xml xfetch rfl

/-- ConsentDoorsModel.in(JJJ)Z -/
def fQ_in (a0 a1 a2 : Int) (M : xM) : Int := (if (xcmpL a0 a1) < 0 then 0 else (if 0 < (xcmpL a0 a2) then 0 else 1 : Int) : Int)
theorem hQ_in (a0 a1 a2 : Int) (M : xM) (r : Int) (h : fQ_in a0 a1 a2 M = r) : xEv (87, 0, [some (1, a0), none, some (1, a1), none, some (1, a2), none], [], M) (some (0, r), M) := by
  unfold fQ_in at h
  refine xEvG_n xml xfetch 3 (y := (87, 3, [some (1, a0), none, some (1, a1), none, some (1, a2), none], [(0, (xcmpL a0 a1))], M)) rfl trivial ?_
  have key_ : xEv (87, 18, [some (1, a0), none, some (1, a1), none, some (1, a2), none], [(0, (if (xcmpL a0 a1) < 0 then 0 else (if 0 < (xcmpL a0 a2) then 0 else 1 : Int) : Int))], M) (some (0, r), M) := by
    subst h
    exact xEvG_retc xml xfetch rfl (by (repeat' split) <;> first | exact Or.inl rfl | exact Or.inr rfl)
  refine xEvG_n xml xfetch 1 (y := (87, if (xcmpL a0 a1) < 0 then 17 else 6, [some (1, a0), none, some (1, a1), none, some (1, a2), none], [], M)) rfl trivial ?_
  refine xEvG_br xml xfetch (fun c2_ => ?_) (fun c2_ => ?_)
  · refine xEvG_n xml xfetch 1 (y := (87, 18, [some (1, a0), none, some (1, a1), none, some (1, a2), none], [(0, 0)], M)) rfl trivial ?_
    try simp only [if_pos c2_] at key_
    try simp only [if_pos c2_]
    exact key_
  · refine xEvG_n xml xfetch 4 (y := (87, if 0 < (xcmpL a0 a2) then 17 else 13, [some (1, a0), none, some (1, a1), none, some (1, a2), none], [], M)) rfl trivial ?_
    refine xEvG_br xml xfetch (fun c4_ => ?_) (fun c4_ => ?_)
    · refine xEvG_n xml xfetch 1 (y := (87, 18, [some (1, a0), none, some (1, a1), none, some (1, a2), none], [(0, 0)], M)) rfl trivial ?_
      try simp only [if_neg c2_, if_pos c4_] at key_
      try simp only [if_neg c2_, if_pos c4_]
      exact key_
    · refine xEvG_n xml xfetch 2 (y := (87, 18, [some (1, a0), none, some (1, a1), none, some (1, a2), none], [(0, 1)], M)) rfl trivial ?_
      try simp only [if_neg c2_, if_neg c4_] at key_
      try simp only [if_neg c2_, if_neg c4_]
      exact key_
theorem bQ_in (a0 a1 a2 : Int) (M : xM) : fQ_in a0 a1 a2 M = 0 ∨ fQ_in a0 a1 a2 M = 1 := by
  unfold fQ_in
  (repeat' split) <;> first | exact Or.inl rfl | exact Or.inr rfl | exact bD_isDrawing _ _ _ | exact bD_isPoints _ _ | exact bD_isSide _ _ | exact bD_isSlot _ _ | exact bPrison_hasCell _ _ _ | exact bPrison_hasHour _ _ _ | exact bPrison_stands _ _ | exact bSlot_holds _ _ _ _ | exact bSlot_isBelow _ _ _

/-- ConsentDoorsModel.isSlot(I)Z -/
def fQ_isSlot (a0 : Int) (M : xM) : Int := (fQ_in a0 0 3 M)
theorem hQ_isSlot (a0 : Int) (M : xM) (r : Int) (h : fQ_isSlot a0 M = r) : xEv (88, 0, [some (0, a0)], [], M) (some (0, r), M) := by
  unfold fQ_isSlot at h
  refine xEvG_n xml xfetch 4 (y := (88, 6, [some (0, a0)], [(1, 3), (1, 0), (1, a0)], M)) rfl trivial ?_
  refine xEvG_call xml xfetch (q := (some (0, fQ_in a0 0 3 M), M)) rfl (hQ_in a0 0 3 M _ rfl) ?_
  show xEv (88, 9, [some (0, a0)], [(0, (fQ_in a0 0 3 M))], M) _
  subst h
  exact xEvG_retc xml xfetch rfl (bQ_in a0 0 3 M)
theorem bQ_isSlot (a0 : Int) (M : xM) : fQ_isSlot a0 M = 0 ∨ fQ_isSlot a0 M = 1 := by
  unfold fQ_isSlot
  (repeat' split) <;> first | exact Or.inl rfl | exact Or.inr rfl | exact bD_isDrawing _ _ _ | exact bD_isPoints _ _ | exact bD_isSide _ _ | exact bD_isSlot _ _ | exact bPrison_hasCell _ _ _ | exact bPrison_hasHour _ _ _ | exact bPrison_stands _ _ | exact bQ_in _ _ _ _ | exact bSlot_holds _ _ _ _ | exact bSlot_isBelow _ _ _

def fQ_row_L57 : Nat → Int → Int → Int → Int → xM → Option (Int × xM)
  | 0, _, _, _, _, _ => none
  | g + 1, x0, x1, x3, x4, M => if x4 < x3 then (xA (0 ≤ (xw32 ((xw32 (60 * x1)) + x4)) ∧ (xw32 ((xw32 (60 * x1)) + x4)) < 240) ((fQ_row_L57 g) x0 x1 x3 (xw32 (x4 + 1)) (xwr M (x0 + 3) (xw32 ((xw32 (60 * x1)) + x4)) 0))) else (some (0, M))
theorem hQ_row_L57 : ∀ (g : Nat) (x0 x1 x3 x4 : Int) (M : xM) (r : Int × xM) (h : fQ_row_L57 g x0 x1 x3 x4 M = some r), xEv (89, 57, [some (13, x0), some (0, x1), none, some (0, x3), some (0, x4)], [], M) (some (0, r.1), r.2)
  | 0, _, _, _, _, _, _, h => by cases h
  | g + 1, x0, x1, x3, x4, M, r, h => by
    unfold fQ_row_L57 at h
    refine xEvG_n xml xfetch 3 (y := (89, if x4 < x3 then 63 else 82, [some (13, x0), some (0, x1), none, some (0, x3), some (0, x4)], [], M)) rfl trivial ?_
    refine xEvG_br xml xfetch (fun c_ => ?_) (fun c_ => ?_)
    · have h := xif_t c_ h
      have a0_ := (xA_t h).1
      have h := (xA_t h).2
      refine xEvG_n xml xfetch 11 (y := (89, 57, [some (13, x0), some (0, x1), none, some (0, x3), some (0, (xw32 (x4 + 1)))], [], (xwr M (x0 + 3) (xw32 ((xw32 (60 * x1)) + x4)) 0))) rfl ⟨a0_, trivial⟩ ?_
      refine xEvG_mask xml xfetch [true, true, false, true, true] ?_
      exact (hQ_row_L57 g) x0 x1 x3 (xw32 (x4 + 1)) (xwr M (x0 + 3) (xw32 ((xw32 (60 * x1)) + x4)) 0) _ h
    · have h := xif_f c_ h
      refine xEvG_n xml xfetch 1 (y := (89, 83, [some (13, x0), some (0, x1), none, some (0, x3), some (0, x4)], [(0, 0)], M)) rfl trivial ?_
      cases h
      exact xEvG_ret xml xfetch rfl
/-- ConsentDoorsModel.row(III)I -/
def fQ_row (a0 a1 a2 a3 : Int) (M : xM) : Option (Int × xM) := if (fQ_isSlot a1 (xwr M a0 0 0)) = 0 then (some ((-2), (xwr M a0 0 0))) else (if (fQ_in a2 0 3 (xwr M a0 0 0)) = 0 then (some ((-2), (xwr M a0 0 0))) else (if 60 < a3 then (some ((-2), (xwr M a0 0 0))) else (if a3 < 0 then (some ((-3), (xwr M a0 0 0))) else (xA (0 ≤ a1 ∧ a1 < 4) (xA (0 ≤ a1 ∧ a1 < 4) (fQ_row_L57 20001 a0 a1 a3 0 (xwr (xwr (xwr M a0 0 0) (a0 + 1) a1 a2) (a0 + 2) a1 a3)))))))
theorem hQ_row (a0 a1 a2 a3 : Int) (M : xM) (r : Int × xM) (h : fQ_row a0 a1 a2 a3 M = some r) : xEv (89, 0, [some (13, a0), some (0, a1), some (0, a2), some (0, a3), none], [], M) (some (0, r.1), r.2) := by
  unfold fQ_row at h
  refine xEvG_n xml xfetch 4 (y := (89, 6, [some (13, a0), some (0, a1), some (0, a2), some (0, a3), none], [(0, a1)], (xwr M a0 0 0))) rfl trivial ?_
  refine xEvG_call xml xfetch (q := (some (0, fQ_isSlot a1 (xwr M a0 0 0)), (xwr M a0 0 0))) rfl (hQ_isSlot a1 (xwr M a0 0 0) _ rfl) ?_
  show xEv (89, 9, [some (13, a0), some (0, a1), some (0, a2), some (0, a3), none], [(0, (fQ_isSlot a1 (xwr M a0 0 0)))], (xwr M a0 0 0)) _
  refine xEvG_n xml xfetch 1 (y := (89, if (fQ_isSlot a1 (xwr M a0 0 0)) = 0 then 30 else 12, [some (13, a0), some (0, a1), some (0, a2), some (0, a3), none], [], (xwr M a0 0 0))) rfl trivial ?_
  refine xEvG_br xml xfetch (fun c_ => ?_) (fun c_ => ?_)
  · have h := xif_t c_ h
    refine xEvG_n xml xfetch 1 (y := (89, 32, [some (13, a0), some (0, a1), some (0, a2), some (0, a3), none], [(0, (-2))], (xwr M a0 0 0))) rfl trivial ?_
    cases h
    exact xEvG_ret xml xfetch rfl
  · have h := xif_f c_ h
    refine xEvG_n xml xfetch 4 (y := (89, 18, [some (13, a0), some (0, a1), some (0, a2), some (0, a3), none], [(1, 3), (1, 0), (1, a2)], (xwr M a0 0 0))) rfl trivial ?_
    refine xEvG_call xml xfetch (q := (some (0, fQ_in a2 0 3 (xwr M a0 0 0)), (xwr M a0 0 0))) rfl (hQ_in a2 0 3 (xwr M a0 0 0) _ rfl) ?_
    show xEv (89, 21, [some (13, a0), some (0, a1), some (0, a2), some (0, a3), none], [(0, (fQ_in a2 0 3 (xwr M a0 0 0)))], (xwr M a0 0 0)) _
    refine xEvG_n xml xfetch 1 (y := (89, if (fQ_in a2 0 3 (xwr M a0 0 0)) = 0 then 30 else 24, [some (13, a0), some (0, a1), some (0, a2), some (0, a3), none], [], (xwr M a0 0 0))) rfl trivial ?_
    refine xEvG_br xml xfetch (fun c_ => ?_) (fun c_ => ?_)
    · have h := xif_t c_ h
      refine xEvG_n xml xfetch 1 (y := (89, 32, [some (13, a0), some (0, a1), some (0, a2), some (0, a3), none], [(0, (-2))], (xwr M a0 0 0))) rfl trivial ?_
      cases h
      exact xEvG_ret xml xfetch rfl
    · have h := xif_f c_ h
      refine xEvG_n xml xfetch 3 (y := (89, if 60 < a3 then 30 else 33, [some (13, a0), some (0, a1), some (0, a2), some (0, a3), none], [], (xwr M a0 0 0))) rfl trivial ?_
      refine xEvG_br xml xfetch (fun c_ => ?_) (fun c_ => ?_)
      · have h := xif_t c_ h
        refine xEvG_n xml xfetch 1 (y := (89, 32, [some (13, a0), some (0, a1), some (0, a2), some (0, a3), none], [(0, (-2))], (xwr M a0 0 0))) rfl trivial ?_
        cases h
        exact xEvG_ret xml xfetch rfl
      · have h := xif_f c_ h
        refine xEvG_n xml xfetch 2 (y := (89, if a3 < 0 then 37 else 40, [some (13, a0), some (0, a1), some (0, a2), some (0, a3), none], [], (xwr M a0 0 0))) rfl trivial ?_
        refine xEvG_br xml xfetch (fun c_ => ?_) (fun c_ => ?_)
        · have h := xif_t c_ h
          refine xEvG_n xml xfetch 1 (y := (89, 39, [some (13, a0), some (0, a1), some (0, a2), some (0, a3), none], [(0, (-3))], (xwr M a0 0 0))) rfl trivial ?_
          cases h
          exact xEvG_ret xml xfetch rfl
        · have h := xif_f c_ h
          have a0_ := (xA_t h).1
          have h := (xA_t h).2
          have a1_ := (xA_t h).1
          have h := (xA_t h).2
          refine xEvG_n xml xfetch 12 (y := (89, 57, [some (13, a0), some (0, a1), some (0, a2), some (0, a3), some (0, 0)], [], (xwr (xwr (xwr M a0 0 0) (a0 + 1) a1 a2) (a0 + 2) a1 a3))) rfl ⟨a0_, a1_, trivial⟩ ?_
          refine xEvG_mask xml xfetch [true, true, false, true, true] ?_
          exact hQ_row_L57 20001 a0 a1 a3 0 (xwr (xwr (xwr M a0 0 0) (a0 + 1) a1 a2) (a0 + 2) a1 a3) _ h

/-- ConsentDoorsModel.cut(JI)J -/
def fQ_cut (a0 a1 : Int) (M : xM) : Int := (if a1 = 0 then (xw8 (xw32 a0)) else (if a1 = 1 then (xw16 (xw32 a0)) else (if a1 = 2 then (xw32 a0) else a0 : Int) : Int) : Int)
theorem hQ_cut (a0 a1 : Int) (M : xM) (r : Int) (h : fQ_cut a0 a1 M = r) : xEv (90, 0, [some (1, a0), none, some (0, a1)], [], M) (some (1, r), M) := by
  unfold fQ_cut at h
  refine xEvG_n xml xfetch 1 (y := (90, 1, [some (1, a0), none, some (0, a1)], [(0, a1)], M)) rfl trivial ?_
  have key_ : xEv (90, 35, [some (1, a0), none, some (0, a1)], [(1, (if a1 = 0 then (xw8 (xw32 a0)) else (if a1 = 1 then (xw16 (xw32 a0)) else (if a1 = 2 then (xw32 a0) else a0 : Int) : Int) : Int))], M) (some (1, r), M) := by
    subst h
    exact xEvG_ret xml xfetch rfl
  refine xEvG_n xml xfetch 1 (y := (90, if a1 = 0 then 4 else 11, [some (1, a0), none, some (0, a1)], [], M)) rfl trivial ?_
  refine xEvG_br xml xfetch (fun c2_ => ?_) (fun c2_ => ?_)
  · refine xEvG_n xml xfetch 5 (y := (90, 35, [some (1, a0), none, some (0, a1)], [(1, (xw8 (xw32 a0)))], M)) rfl trivial ?_
    try simp only [if_pos c2_] at key_
    try simp only [if_pos c2_]
    exact key_
  · refine xEvG_n xml xfetch 3 (y := (90, if a1 = 1 then 16 else 23, [some (1, a0), none, some (0, a1)], [], M)) rfl trivial ?_
    refine xEvG_br xml xfetch (fun c4_ => ?_) (fun c4_ => ?_)
    · refine xEvG_n xml xfetch 5 (y := (90, 35, [some (1, a0), none, some (0, a1)], [(1, (xw16 (xw32 a0)))], M)) rfl trivial ?_
      try simp only [if_neg c2_, if_pos c4_] at key_
      try simp only [if_neg c2_, if_pos c4_]
      exact key_
    · refine xEvG_n xml xfetch 3 (y := (90, if a1 = 2 then 28 else 34, [some (1, a0), none, some (0, a1)], [], M)) rfl trivial ?_
      refine xEvG_br xml xfetch (fun c6_ => ?_) (fun c6_ => ?_)
      · refine xEvG_n xml xfetch 4 (y := (90, 35, [some (1, a0), none, some (0, a1)], [(1, (xw32 a0))], M)) rfl trivial ?_
        try simp only [if_neg c2_, if_neg c4_, if_pos c6_] at key_
        try simp only [if_neg c2_, if_neg c4_, if_pos c6_]
        exact key_
      · refine xEvG_n xml xfetch 1 (y := (90, 35, [some (1, a0), none, some (0, a1)], [(1, a0)], M)) rfl trivial ?_
        try simp only [if_neg c2_, if_neg c4_, if_neg c6_] at key_
        try simp only [if_neg c2_, if_neg c4_, if_neg c6_]
        exact key_

/-- ConsentDoorsModel.write(IIJ)I -/
def fQ_write (a0 a1 a2 a3 : Int) (M : xM) : Option (Int × xM) := if (fQ_isSlot a1 (xwr M a0 0 0)) = 0 then (some ((-2), (xwr M a0 0 0))) else (xA (0 ≤ a1 ∧ a1 < 4) (if ((xwr M a0 0 0) (a0 + 1) a1) = (-1) then (some ((-6), (xwr M a0 0 0))) else (xA (0 ≤ a1 ∧ a1 < 4) (if (fQ_in a2 0 (xw32 (((xwr M a0 0 0) (a0 + 2) a1) - 1)) (xwr M a0 0 0)) = 0 then (some ((-7), (xwr M a0 0 0))) else (xA (0 ≤ a1 ∧ a1 < 4) (xA (0 ≤ (xw32 ((xw32 (60 * a1)) + a2)) ∧ (xw32 ((xw32 (60 * a1)) + a2)) < 240) (some (0, (xwr (xwr M a0 0 0) (a0 + 3) (xw32 ((xw32 (60 * a1)) + a2)) (fQ_cut a3 ((xwr M a0 0 0) (a0 + 1) a1) (xwr M a0 0 0)))))))))))
theorem hQ_write (a0 a1 a2 a3 : Int) (M : xM) (r : Int × xM) (h : fQ_write a0 a1 a2 a3 M = some r) : xEv (91, 0, [some (13, a0), some (0, a1), some (0, a2), some (1, a3), none], [], M) (some (0, r.1), r.2) := by
  unfold fQ_write at h
  refine xEvG_n xml xfetch 4 (y := (91, 6, [some (13, a0), some (0, a1), some (0, a2), some (1, a3), none], [(0, a1)], (xwr M a0 0 0))) rfl trivial ?_
  refine xEvG_call xml xfetch (q := (some (0, fQ_isSlot a1 (xwr M a0 0 0)), (xwr M a0 0 0))) rfl (hQ_isSlot a1 (xwr M a0 0 0) _ rfl) ?_
  show xEv (91, 9, [some (13, a0), some (0, a1), some (0, a2), some (1, a3), none], [(0, (fQ_isSlot a1 (xwr M a0 0 0)))], (xwr M a0 0 0)) _
  refine xEvG_n xml xfetch 1 (y := (91, if (fQ_isSlot a1 (xwr M a0 0 0)) = 0 then 12 else 15, [some (13, a0), some (0, a1), some (0, a2), some (1, a3), none], [], (xwr M a0 0 0))) rfl trivial ?_
  refine xEvG_br xml xfetch (fun c_ => ?_) (fun c_ => ?_)
  · have h := xif_t c_ h
    refine xEvG_n xml xfetch 1 (y := (91, 14, [some (13, a0), some (0, a1), some (0, a2), some (1, a3), none], [(0, (-2))], (xwr M a0 0 0))) rfl trivial ?_
    cases h
    exact xEvG_ret xml xfetch rfl
  · have h := xif_f c_ h
    have a0_ := (xA_t h).1
    have h := (xA_t h).2
    refine xEvG_n xml xfetch 6 (y := (91, if ((xwr M a0 0 0) (a0 + 1) a1) = (-1) then 25 else 28, [some (13, a0), some (0, a1), some (0, a2), some (1, a3), none], [], (xwr M a0 0 0))) rfl ⟨a0_, trivial⟩ ?_
    refine xEvG_br xml xfetch (fun c_ => ?_) (fun c_ => ?_)
    · have h := xif_t c_ h
      refine xEvG_n xml xfetch 1 (y := (91, 27, [some (13, a0), some (0, a1), some (0, a2), some (1, a3), none], [(0, (-6))], (xwr M a0 0 0))) rfl trivial ?_
      cases h
      exact xEvG_ret xml xfetch rfl
    · have h := xif_f c_ h
      have a0_ := (xA_t h).1
      have h := (xA_t h).2
      refine xEvG_n xml xfetch 10 (y := (91, 40, [some (13, a0), some (0, a1), some (0, a2), some (1, a3), none], [(1, (xw32 (((xwr M a0 0 0) (a0 + 2) a1) - 1))), (1, 0), (1, a2)], (xwr M a0 0 0))) rfl ⟨a0_, trivial⟩ ?_
      refine xEvG_call xml xfetch (q := (some (0, fQ_in a2 0 (xw32 (((xwr M a0 0 0) (a0 + 2) a1) - 1)) (xwr M a0 0 0)), (xwr M a0 0 0))) rfl (hQ_in a2 0 (xw32 (((xwr M a0 0 0) (a0 + 2) a1) - 1)) (xwr M a0 0 0) _ rfl) ?_
      show xEv (91, 43, [some (13, a0), some (0, a1), some (0, a2), some (1, a3), none], [(0, (fQ_in a2 0 (xw32 (((xwr M a0 0 0) (a0 + 2) a1) - 1)) (xwr M a0 0 0)))], (xwr M a0 0 0)) _
      refine xEvG_n xml xfetch 1 (y := (91, if (fQ_in a2 0 (xw32 (((xwr M a0 0 0) (a0 + 2) a1) - 1)) (xwr M a0 0 0)) = 0 then 46 else 49, [some (13, a0), some (0, a1), some (0, a2), some (1, a3), none], [], (xwr M a0 0 0))) rfl trivial ?_
      refine xEvG_br xml xfetch (fun c_ => ?_) (fun c_ => ?_)
      · have h := xif_t c_ h
        refine xEvG_n xml xfetch 1 (y := (91, 48, [some (13, a0), some (0, a1), some (0, a2), some (1, a3), none], [(0, (-7))], (xwr M a0 0 0))) rfl trivial ?_
        cases h
        exact xEvG_ret xml xfetch rfl
      · have h := xif_f c_ h
        have a0_ := (xA_t h).1
        have h := (xA_t h).2
        refine xEvG_n xml xfetch 12 (y := (91, 66, [some (13, a0), some (0, a1), some (0, a2), some (1, a3), none], [(0, ((xwr M a0 0 0) (a0 + 1) a1)), (1, a3), (0, (xw32 ((xw32 (60 * a1)) + a2))), (32, (a0 + 3))], (xwr M a0 0 0))) rfl ⟨a0_, trivial⟩ ?_
        refine xEvG_call xml xfetch (q := (some (1, fQ_cut a3 ((xwr M a0 0 0) (a0 + 1) a1) (xwr M a0 0 0)), (xwr M a0 0 0))) rfl (hQ_cut a3 ((xwr M a0 0 0) (a0 + 1) a1) (xwr M a0 0 0) _ rfl) ?_
        show xEv (91, 69, [some (13, a0), some (0, a1), some (0, a2), some (1, a3), none], [(1, (fQ_cut a3 ((xwr M a0 0 0) (a0 + 1) a1) (xwr M a0 0 0))), (0, (xw32 ((xw32 (60 * a1)) + a2))), (32, (a0 + 3))], (xwr M a0 0 0)) _
        have a0_ := (xA_t h).1
        have h := (xA_t h).2
        refine xEvG_n xml xfetch 2 (y := (91, 71, [some (13, a0), some (0, a1), some (0, a2), some (1, a3), none], [(0, 0)], (xwr (xwr M a0 0 0) (a0 + 3) (xw32 ((xw32 (60 * a1)) + a2)) (fQ_cut a3 ((xwr M a0 0 0) (a0 + 1) a1) (xwr M a0 0 0))))) rfl ⟨a0_, trivial⟩ ?_
        cases h
        exact xEvG_ret xml xfetch rfl

def fQ_paste_L155 : Nat → Int → Int → Int → Int → Int → xM → Option (Int × xM)
  | 0, _, _, _, _, _, _ => none
  | g + 1, x0, x3, x4, x5, x6, M => if x6 < x5 then (xA (0 ≤ x6 ∧ x6 < 60) (xA (0 ≤ (xw32 ((xw32 ((xw32 (60 * x3)) + x4)) + x6)) ∧ (xw32 ((xw32 ((xw32 (60 * x3)) + x4)) + x6)) < 240) ((fQ_paste_L155 g) x0 x3 x4 x5 (xw32 (x6 + 1)) (xwr M (x0 + 3) (xw32 ((xw32 ((xw32 (60 * x3)) + x4)) + x6)) (M (x0 + 4) x6))))) else (some (0, M))
theorem hQ_paste_L155 : ∀ (g : Nat) (x0 x3 x4 x5 x6 : Int) (M : xM) (r : Int × xM) (h : fQ_paste_L155 g x0 x3 x4 x5 x6 M = some r), xEv (92, 155, [some (13, x0), none, none, some (0, x3), some (0, x4), some (0, x5), some (0, x6)], [], M) (some (0, r.1), r.2)
  | 0, _, _, _, _, _, _, _, h => by cases h
  | g + 1, x0, x3, x4, x5, x6, M, r, h => by
    unfold fQ_paste_L155 at h
    refine xEvG_n xml xfetch 3 (y := (92, if x6 < x5 then 162 else 190, [some (13, x0), none, none, some (0, x3), some (0, x4), some (0, x5), some (0, x6)], [], M)) rfl trivial ?_
    refine xEvG_br xml xfetch (fun c_ => ?_) (fun c_ => ?_)
    · have h := xif_t c_ h
      have a0_ := (xA_t h).1
      have h := (xA_t h).2
      have a1_ := (xA_t h).1
      have h := (xA_t h).2
      refine xEvG_n xml xfetch 16 (y := (92, 155, [some (13, x0), none, none, some (0, x3), some (0, x4), some (0, x5), some (0, (xw32 (x6 + 1)))], [], (xwr M (x0 + 3) (xw32 ((xw32 ((xw32 (60 * x3)) + x4)) + x6)) (M (x0 + 4) x6)))) rfl ⟨a0_, a1_, trivial⟩ ?_
      refine xEvG_mask xml xfetch [true, false, false, true, true, true, true] ?_
      exact (hQ_paste_L155 g) x0 x3 x4 x5 (xw32 (x6 + 1)) (xwr M (x0 + 3) (xw32 ((xw32 ((xw32 (60 * x3)) + x4)) + x6)) (M (x0 + 4) x6)) _ h
    · have h := xif_f c_ h
      refine xEvG_n xml xfetch 1 (y := (92, 191, [some (13, x0), none, none, some (0, x3), some (0, x4), some (0, x5), some (0, x6)], [(0, 0)], M)) rfl trivial ?_
      cases h
      exact xEvG_ret xml xfetch rfl
def fQ_paste_L118 : Nat → Int → Int → Int → Int → Int → Int → Int → xM → Option (Int × xM)
  | 0, _, _, _, _, _, _, _, _ => none
  | g + 1, x0, x1, x2, x3, x4, x5, x6, M => if x6 < x5 then (xA (0 ≤ (xw32 ((xw32 ((xw32 (60 * x1)) + x2)) + x6)) ∧ (xw32 ((xw32 ((xw32 (60 * x1)) + x2)) + x6)) < 240) (xA (0 ≤ x6 ∧ x6 < 60) ((fQ_paste_L118 g) x0 x1 x2 x3 x4 x5 (xw32 (x6 + 1)) (xwr M (x0 + 4) x6 (M (x0 + 3) (xw32 ((xw32 ((xw32 (60 * x1)) + x2)) + x6))))))) else (fQ_paste_L155 20001 x0 x3 x4 x5 0 M)
theorem hQ_paste_L118 : ∀ (g : Nat) (x0 x1 x2 x3 x4 x5 x6 : Int) (M : xM) (r : Int × xM) (h : fQ_paste_L118 g x0 x1 x2 x3 x4 x5 x6 M = some r), xEv (92, 118, [some (13, x0), some (0, x1), some (0, x2), some (0, x3), some (0, x4), some (0, x5), some (0, x6)], [], M) (some (0, r.1), r.2)
  | 0, _, _, _, _, _, _, _, _, _, h => by cases h
  | g + 1, x0, x1, x2, x3, x4, x5, x6, M, r, h => by
    unfold fQ_paste_L118 at h
    refine xEvG_n xml xfetch 3 (y := (92, if x6 < x5 then 125 else 152, [some (13, x0), some (0, x1), some (0, x2), some (0, x3), some (0, x4), some (0, x5), some (0, x6)], [], M)) rfl trivial ?_
    refine xEvG_br xml xfetch (fun c_ => ?_) (fun c_ => ?_)
    · have h := xif_t c_ h
      have a0_ := (xA_t h).1
      have h := (xA_t h).2
      have a1_ := (xA_t h).1
      have h := (xA_t h).2
      refine xEvG_n xml xfetch 16 (y := (92, 118, [some (13, x0), some (0, x1), some (0, x2), some (0, x3), some (0, x4), some (0, x5), some (0, (xw32 (x6 + 1)))], [], (xwr M (x0 + 4) x6 (M (x0 + 3) (xw32 ((xw32 ((xw32 (60 * x1)) + x2)) + x6)))))) rfl ⟨a0_, a1_, trivial⟩ ?_
      refine xEvG_mask xml xfetch [true, true, true, true, true, true, true] ?_
      exact (hQ_paste_L118 g) x0 x1 x2 x3 x4 x5 (xw32 (x6 + 1)) (xwr M (x0 + 4) x6 (M (x0 + 3) (xw32 ((xw32 ((xw32 (60 * x1)) + x2)) + x6)))) _ h
    · have h := xif_f c_ h
      refine xEvG_n xml xfetch 2 (y := (92, 155, [some (13, x0), some (0, x1), some (0, x2), some (0, x3), some (0, x4), some (0, x5), some (0, 0)], [], M)) rfl trivial ?_
      refine xEvG_mask xml xfetch [true, false, false, true, true, true, true] ?_
      exact hQ_paste_L155 20001 x0 x3 x4 x5 0 M _ h
/-- ConsentDoorsModel.paste(IIIII)I -/
def fQ_paste (a0 a1 a2 a3 a4 a5 : Int) (M : xM) : Option (Int × xM) := if (fQ_isSlot a1 (xwr M a0 0 0)) = 0 then (some ((-2), (xwr M a0 0 0))) else (if (fQ_isSlot a3 (xwr M a0 0 0)) = 0 then (some ((-2), (xwr M a0 0 0))) else (xA (0 ≤ a1 ∧ a1 < 4) (if ((xwr M a0 0 0) (a0 + 1) a1) = (-1) then (some ((-6), (xwr M a0 0 0))) else (xA (0 ≤ a3 ∧ a3 < 4) (if ((xwr M a0 0 0) (a0 + 1) a3) = (-1) then (some ((-6), (xwr M a0 0 0))) else (xA (0 ≤ a1 ∧ a1 < 4) (xA (0 ≤ a3 ∧ a3 < 4) (if ((xwr M a0 0 0) (a0 + 1) a1) = ((xwr M a0 0 0) (a0 + 1) a3) then (if a2 < 0 then (some ((-7), (xwr M a0 0 0))) else (if a4 < 0 then (some ((-7), (xwr M a0 0 0))) else (if a5 < 0 then (some ((-7), (xwr M a0 0 0))) else (xA (0 ≤ a1 ∧ a1 < 4) (if 0 < (xcmpL (xw64 (a2 + a5)) ((xwr M a0 0 0) (a0 + 2) a1)) then (some ((-7), (xwr M a0 0 0))) else (xA (0 ≤ a3 ∧ a3 < 4) (if 0 < (xcmpL (xw64 (a4 + a5)) ((xwr M a0 0 0) (a0 + 2) a3)) then (some ((-7), (xwr M a0 0 0))) else (fQ_paste_L118 20001 a0 a1 a2 a3 a4 a5 0 (xwr M a0 0 0))))))))) else (some ((-8), (xwr M a0 0 0)))))))))))
theorem hQ_paste (a0 a1 a2 a3 a4 a5 : Int) (M : xM) (r : Int × xM) (h : fQ_paste a0 a1 a2 a3 a4 a5 M = some r) : xEv (92, 0, [some (13, a0), some (0, a1), some (0, a2), some (0, a3), some (0, a4), some (0, a5), none], [], M) (some (0, r.1), r.2) := by
  unfold fQ_paste at h
  refine xEvG_n xml xfetch 4 (y := (92, 6, [some (13, a0), some (0, a1), some (0, a2), some (0, a3), some (0, a4), some (0, a5), none], [(0, a1)], (xwr M a0 0 0))) rfl trivial ?_
  refine xEvG_call xml xfetch (q := (some (0, fQ_isSlot a1 (xwr M a0 0 0)), (xwr M a0 0 0))) rfl (hQ_isSlot a1 (xwr M a0 0 0) _ rfl) ?_
  show xEv (92, 9, [some (13, a0), some (0, a1), some (0, a2), some (0, a3), some (0, a4), some (0, a5), none], [(0, (fQ_isSlot a1 (xwr M a0 0 0)))], (xwr M a0 0 0)) _
  refine xEvG_n xml xfetch 1 (y := (92, if (fQ_isSlot a1 (xwr M a0 0 0)) = 0 then 19 else 12, [some (13, a0), some (0, a1), some (0, a2), some (0, a3), some (0, a4), some (0, a5), none], [], (xwr M a0 0 0))) rfl trivial ?_
  refine xEvG_br xml xfetch (fun c_ => ?_) (fun c_ => ?_)
  · have h := xif_t c_ h
    refine xEvG_n xml xfetch 1 (y := (92, 21, [some (13, a0), some (0, a1), some (0, a2), some (0, a3), some (0, a4), some (0, a5), none], [(0, (-2))], (xwr M a0 0 0))) rfl trivial ?_
    cases h
    exact xEvG_ret xml xfetch rfl
  · have h := xif_f c_ h
    refine xEvG_n xml xfetch 1 (y := (92, 13, [some (13, a0), some (0, a1), some (0, a2), some (0, a3), some (0, a4), some (0, a5), none], [(0, a3)], (xwr M a0 0 0))) rfl trivial ?_
    refine xEvG_call xml xfetch (q := (some (0, fQ_isSlot a3 (xwr M a0 0 0)), (xwr M a0 0 0))) rfl (hQ_isSlot a3 (xwr M a0 0 0) _ rfl) ?_
    show xEv (92, 16, [some (13, a0), some (0, a1), some (0, a2), some (0, a3), some (0, a4), some (0, a5), none], [(0, (fQ_isSlot a3 (xwr M a0 0 0)))], (xwr M a0 0 0)) _
    refine xEvG_n xml xfetch 1 (y := (92, if (fQ_isSlot a3 (xwr M a0 0 0)) = 0 then 19 else 22, [some (13, a0), some (0, a1), some (0, a2), some (0, a3), some (0, a4), some (0, a5), none], [], (xwr M a0 0 0))) rfl trivial ?_
    refine xEvG_br xml xfetch (fun c_ => ?_) (fun c_ => ?_)
    · have h := xif_t c_ h
      refine xEvG_n xml xfetch 1 (y := (92, 21, [some (13, a0), some (0, a1), some (0, a2), some (0, a3), some (0, a4), some (0, a5), none], [(0, (-2))], (xwr M a0 0 0))) rfl trivial ?_
      cases h
      exact xEvG_ret xml xfetch rfl
    · have h := xif_f c_ h
      have a0_ := (xA_t h).1
      have h := (xA_t h).2
      refine xEvG_n xml xfetch 6 (y := (92, if ((xwr M a0 0 0) (a0 + 1) a1) = (-1) then 42 else 32, [some (13, a0), some (0, a1), some (0, a2), some (0, a3), some (0, a4), some (0, a5), none], [], (xwr M a0 0 0))) rfl ⟨a0_, trivial⟩ ?_
      refine xEvG_br xml xfetch (fun c_ => ?_) (fun c_ => ?_)
      · have h := xif_t c_ h
        refine xEvG_n xml xfetch 1 (y := (92, 44, [some (13, a0), some (0, a1), some (0, a2), some (0, a3), some (0, a4), some (0, a5), none], [(0, (-6))], (xwr M a0 0 0))) rfl trivial ?_
        cases h
        exact xEvG_ret xml xfetch rfl
      · have h := xif_f c_ h
        have a0_ := (xA_t h).1
        have h := (xA_t h).2
        refine xEvG_n xml xfetch 6 (y := (92, if ((xwr M a0 0 0) (a0 + 1) a3) = (-1) then 42 else 45, [some (13, a0), some (0, a1), some (0, a2), some (0, a3), some (0, a4), some (0, a5), none], [], (xwr M a0 0 0))) rfl ⟨a0_, trivial⟩ ?_
        refine xEvG_br xml xfetch (fun c_ => ?_) (fun c_ => ?_)
        · have h := xif_t c_ h
          refine xEvG_n xml xfetch 1 (y := (92, 44, [some (13, a0), some (0, a1), some (0, a2), some (0, a3), some (0, a4), some (0, a5), none], [(0, (-6))], (xwr M a0 0 0))) rfl trivial ?_
          cases h
          exact xEvG_ret xml xfetch rfl
        · have h := xif_f c_ h
          have a0_ := (xA_t h).1
          have h := (xA_t h).2
          have a1_ := (xA_t h).1
          have h := (xA_t h).2
          refine xEvG_n xml xfetch 9 (y := (92, if ((xwr M a0 0 0) (a0 + 1) a1) = ((xwr M a0 0 0) (a0 + 1) a3) then 63 else 60, [some (13, a0), some (0, a1), some (0, a2), some (0, a3), some (0, a4), some (0, a5), none], [], (xwr M a0 0 0))) rfl ⟨a0_, a1_, trivial⟩ ?_
          refine xEvG_br xml xfetch (fun c_ => ?_) (fun c_ => ?_)
          · have h := xif_t c_ h
            refine xEvG_n xml xfetch 2 (y := (92, if a2 < 0 then 112 else 67, [some (13, a0), some (0, a1), some (0, a2), some (0, a3), some (0, a4), some (0, a5), none], [], (xwr M a0 0 0))) rfl trivial ?_
            refine xEvG_br xml xfetch (fun c_ => ?_) (fun c_ => ?_)
            · have h := xif_t c_ h
              refine xEvG_n xml xfetch 1 (y := (92, 114, [some (13, a0), some (0, a1), some (0, a2), some (0, a3), some (0, a4), some (0, a5), none], [(0, (-7))], (xwr M a0 0 0))) rfl trivial ?_
              cases h
              exact xEvG_ret xml xfetch rfl
            · have h := xif_f c_ h
              refine xEvG_n xml xfetch 2 (y := (92, if a4 < 0 then 112 else 72, [some (13, a0), some (0, a1), some (0, a2), some (0, a3), some (0, a4), some (0, a5), none], [], (xwr M a0 0 0))) rfl trivial ?_
              refine xEvG_br xml xfetch (fun c_ => ?_) (fun c_ => ?_)
              · have h := xif_t c_ h
                refine xEvG_n xml xfetch 1 (y := (92, 114, [some (13, a0), some (0, a1), some (0, a2), some (0, a3), some (0, a4), some (0, a5), none], [(0, (-7))], (xwr M a0 0 0))) rfl trivial ?_
                cases h
                exact xEvG_ret xml xfetch rfl
              · have h := xif_f c_ h
                refine xEvG_n xml xfetch 2 (y := (92, if a5 < 0 then 112 else 77, [some (13, a0), some (0, a1), some (0, a2), some (0, a3), some (0, a4), some (0, a5), none], [], (xwr M a0 0 0))) rfl trivial ?_
                refine xEvG_br xml xfetch (fun c_ => ?_) (fun c_ => ?_)
                · have h := xif_t c_ h
                  refine xEvG_n xml xfetch 1 (y := (92, 114, [some (13, a0), some (0, a1), some (0, a2), some (0, a3), some (0, a4), some (0, a5), none], [(0, (-7))], (xwr M a0 0 0))) rfl trivial ?_
                  cases h
                  exact xEvG_ret xml xfetch rfl
                · have h := xif_f c_ h
                  have a0_ := (xA_t h).1
                  have h := (xA_t h).2
                  refine xEvG_n xml xfetch 12 (y := (92, if 0 < (xcmpL (xw64 (a2 + a5)) ((xwr M a0 0 0) (a0 + 2) a1)) then 112 else 94, [some (13, a0), some (0, a1), some (0, a2), some (0, a3), some (0, a4), some (0, a5), none], [], (xwr M a0 0 0))) rfl ⟨a0_, trivial⟩ ?_
                  refine xEvG_br xml xfetch (fun c_ => ?_) (fun c_ => ?_)
                  · have h := xif_t c_ h
                    refine xEvG_n xml xfetch 1 (y := (92, 114, [some (13, a0), some (0, a1), some (0, a2), some (0, a3), some (0, a4), some (0, a5), none], [(0, (-7))], (xwr M a0 0 0))) rfl trivial ?_
                    cases h
                    exact xEvG_ret xml xfetch rfl
                  · have h := xif_f c_ h
                    have a0_ := (xA_t h).1
                    have h := (xA_t h).2
                    refine xEvG_n xml xfetch 12 (y := (92, if 0 < (xcmpL (xw64 (a4 + a5)) ((xwr M a0 0 0) (a0 + 2) a3)) then 112 else 115, [some (13, a0), some (0, a1), some (0, a2), some (0, a3), some (0, a4), some (0, a5), none], [], (xwr M a0 0 0))) rfl ⟨a0_, trivial⟩ ?_
                    refine xEvG_br xml xfetch (fun c_ => ?_) (fun c_ => ?_)
                    · have h := xif_t c_ h
                      refine xEvG_n xml xfetch 1 (y := (92, 114, [some (13, a0), some (0, a1), some (0, a2), some (0, a3), some (0, a4), some (0, a5), none], [(0, (-7))], (xwr M a0 0 0))) rfl trivial ?_
                      cases h
                      exact xEvG_ret xml xfetch rfl
                    · have h := xif_f c_ h
                      refine xEvG_n xml xfetch 2 (y := (92, 118, [some (13, a0), some (0, a1), some (0, a2), some (0, a3), some (0, a4), some (0, a5), some (0, 0)], [], (xwr M a0 0 0))) rfl trivial ?_
                      refine xEvG_mask xml xfetch [true, true, true, true, true, true, true] ?_
                      exact hQ_paste_L118 20001 a0 a1 a2 a3 a4 a5 0 (xwr M a0 0 0) _ h
          · have h := xif_f c_ h
            refine xEvG_n xml xfetch 1 (y := (92, 62, [some (13, a0), some (0, a1), some (0, a2), some (0, a3), some (0, a4), some (0, a5), none], [(0, (-8))], (xwr M a0 0 0))) rfl trivial ?_
            cases h
            exact xEvG_ret xml xfetch rfl

def fQ_four_L3 : Nat → Int → Int → Int → xM → Option xM
  | 0, _, _, _, _ => none
  | g + 1, x0, x1, x2, M => if x2 < 0 then (some M) else (xA (0 ≤ (M x0 6) ∧ (M x0 6) < 1600) ((fQ_four_L3 g) x0 x1 (xw32 (x2 + (-8))) (xwr (xwr M (x0 + 5) (M x0 6) (xw8 (xw8 (xshr x1 x2)))) x0 6 (xw32 (((xwr M (x0 + 5) (M x0 6) (xw8 (xw8 (xshr x1 x2)))) x0 6) + 1)))))
theorem hQ_four_L3 : ∀ (g : Nat) (x0 x1 x2 : Int) (M : xM) (r : xM) (h : fQ_four_L3 g x0 x1 x2 M = some r), xEv (94, 3, [some (13, x0), some (0, x1), some (0, x2)], [], M) (none, r)
  | 0, _, _, _, _, _, h => by cases h
  | g + 1, x0, x1, x2, M, r, h => by
    unfold fQ_four_L3 at h
    refine xEvG_n xml xfetch 2 (y := (94, if x2 < 0 then 36 else 7, [some (13, x0), some (0, x1), some (0, x2)], [], M)) rfl trivial ?_
    refine xEvG_br xml xfetch (fun c_ => ?_) (fun c_ => ?_)
    · have h := xif_t c_ h
      cases h
      exact xEvG_ret xml xfetch rfl
    · have h := xif_f c_ h
      have a0_ := (xA_t h).1
      have h := (xA_t h).2
      refine xEvG_n xml xfetch 17 (y := (94, 3, [some (13, x0), some (0, x1), some (0, (xw32 (x2 + (-8))))], [], (xwr (xwr M (x0 + 5) (M x0 6) (xw8 (xw8 (xshr x1 x2)))) x0 6 (xw32 (((xwr M (x0 + 5) (M x0 6) (xw8 (xw8 (xshr x1 x2)))) x0 6) + 1))))) rfl ⟨a0_, trivial⟩ ?_
      refine xEvG_mask xml xfetch [true, true, true] ?_
      exact (hQ_four_L3 g) x0 x1 (xw32 (x2 + (-8))) (xwr (xwr M (x0 + 5) (M x0 6) (xw8 (xw8 (xshr x1 x2)))) x0 6 (xw32 (((xwr M (x0 + 5) (M x0 6) (xw8 (xw8 (xshr x1 x2)))) x0 6) + 1))) _ h
/-- ConsentDoorsModel.four(I)V -/
def fQ_four (a0 a1 : Int) (M : xM) : Option xM := fQ_four_L3 20001 a0 a1 24 M
theorem hQ_four (a0 a1 : Int) (M : xM) (r : xM) (h : fQ_four a0 a1 M = some r) : xEv (94, 0, [some (13, a0), some (0, a1), none], [], M) (none, r) := by
  unfold fQ_four at h
  refine xEvG_n xml xfetch 2 (y := (94, 3, [some (13, a0), some (0, a1), some (0, 24)], [], M)) rfl trivial ?_
  refine xEvG_mask xml xfetch [true, true, true] ?_
  exact hQ_four_L3 20001 a0 a1 24 M _ h

/-- ConsentDoorsModel.feed(IIIII)I -/
def fQ_feed (a0 a1 a2 a3 a4 a5 : Int) (M : xM) : Option (Int × xM) := if 1600 < (xw32 (((xwr M a0 0 0) a0 6) + 20)) then (some ((-1), (xwr M a0 0 0))) else (xB (fQ_four a0 a1 (xwr M a0 0 0)) (fun m1 => xB (fQ_four a0 a2 m1) (fun m2 => xB (fQ_four a0 a3 m2) (fun m3 => xB (fQ_four a0 a4 m3) (fun m4 => xB (fQ_four a0 a5 m4) (fun m5 => some ((m5 a0 6), m5)))))))
theorem hQ_feed (a0 a1 a2 a3 a4 a5 : Int) (M : xM) (r : Int × xM) (h : fQ_feed a0 a1 a2 a3 a4 a5 M = some r) : xEv (93, 0, [some (13, a0), some (0, a1), some (0, a2), some (0, a3), some (0, a4), some (0, a5)], [], M) (some (0, r.1), r.2) := by
  unfold fQ_feed at h
  refine xEvG_n xml xfetch 9 (y := (93, if 1600 < (xw32 (((xwr M a0 0 0) a0 6) + 20)) then 18 else 20, [some (13, a0), some (0, a1), some (0, a2), some (0, a3), some (0, a4), some (0, a5)], [], (xwr M a0 0 0))) rfl trivial ?_
  refine xEvG_br xml xfetch (fun c_ => ?_) (fun c_ => ?_)
  · have h := xif_t c_ h
    refine xEvG_n xml xfetch 1 (y := (93, 19, [some (13, a0), some (0, a1), some (0, a2), some (0, a3), some (0, a4), some (0, a5)], [(0, (-1))], (xwr M a0 0 0))) rfl trivial ?_
    cases h
    exact xEvG_ret xml xfetch rfl
  · have h := xif_f c_ h
    refine xEvG_n xml xfetch 2 (y := (93, 22, [some (13, a0), some (0, a1), some (0, a2), some (0, a3), some (0, a4), some (0, a5)], [(0, a1), (13, a0)], (xwr M a0 0 0))) rfl trivial ?_
    obtain ⟨m1, e_, h⟩ := xB_t h
    refine xEvG_call xml xfetch (q := (none, m1)) rfl (hQ_four a0 a1 (xwr M a0 0 0) _ e_) ?_
    show xEv (93, 25, [some (13, a0), some (0, a1), some (0, a2), some (0, a3), some (0, a4), some (0, a5)], [], m1) _
    refine xEvG_n xml xfetch 2 (y := (93, 27, [some (13, a0), some (0, a1), some (0, a2), some (0, a3), some (0, a4), some (0, a5)], [(0, a2), (13, a0)], m1)) rfl trivial ?_
    obtain ⟨m2, e_, h⟩ := xB_t h
    refine xEvG_call xml xfetch (q := (none, m2)) rfl (hQ_four a0 a2 m1 _ e_) ?_
    show xEv (93, 30, [some (13, a0), some (0, a1), some (0, a2), some (0, a3), some (0, a4), some (0, a5)], [], m2) _
    refine xEvG_n xml xfetch 2 (y := (93, 32, [some (13, a0), some (0, a1), some (0, a2), some (0, a3), some (0, a4), some (0, a5)], [(0, a3), (13, a0)], m2)) rfl trivial ?_
    obtain ⟨m3, e_, h⟩ := xB_t h
    refine xEvG_call xml xfetch (q := (none, m3)) rfl (hQ_four a0 a3 m2 _ e_) ?_
    show xEv (93, 35, [some (13, a0), some (0, a1), some (0, a2), some (0, a3), some (0, a4), some (0, a5)], [], m3) _
    refine xEvG_n xml xfetch 2 (y := (93, 38, [some (13, a0), some (0, a1), some (0, a2), some (0, a3), some (0, a4), some (0, a5)], [(0, a4), (13, a0)], m3)) rfl trivial ?_
    obtain ⟨m4, e_, h⟩ := xB_t h
    refine xEvG_call xml xfetch (q := (none, m4)) rfl (hQ_four a0 a4 m3 _ e_) ?_
    show xEv (93, 41, [some (13, a0), some (0, a1), some (0, a2), some (0, a3), some (0, a4), some (0, a5)], [], m4) _
    refine xEvG_n xml xfetch 2 (y := (93, 44, [some (13, a0), some (0, a1), some (0, a2), some (0, a3), some (0, a4), some (0, a5)], [(0, a5), (13, a0)], m4)) rfl trivial ?_
    obtain ⟨m5, e_, h⟩ := xB_t h
    refine xEvG_call xml xfetch (q := (none, m5)) rfl (hQ_four a0 a5 m4 _ e_) ?_
    show xEv (93, 47, [some (13, a0), some (0, a1), some (0, a2), some (0, a3), some (0, a4), some (0, a5)], [], m5) _
    refine xEvG_n xml xfetch 2 (y := (93, 51, [some (13, a0), some (0, a1), some (0, a2), some (0, a3), some (0, a4), some (0, a5)], [(0, (m5 a0 6))], m5)) rfl trivial ?_
    cases h
    exact xEvG_ret xml xfetch rfl

/-- ConsentDoorsModel.end(I)I -/
def fQ_end (a0 a1 : Int) (M : xM) : Int × xM := if (fQ_in a1 0 ((xwr M a0 0 0) a0 6) (xwr M a0 0 0)) = 0 then (((-1), (xwr M a0 0 0))) else ((a1, (xwr (xwr M a0 0 0) a0 6 a1)))
theorem hQ_end (a0 a1 : Int) (M : xM) (r : Int × xM) (h : fQ_end a0 a1 M = r) : xEv (95, 0, [some (13, a0), some (0, a1)], [], M) (some (0, r.1), r.2) := by
  unfold fQ_end at h
  refine xEvG_n xml xfetch 9 (y := (95, 13, [some (13, a0), some (0, a1)], [(1, ((xwr M a0 0 0) a0 6)), (1, 0), (1, a1)], (xwr M a0 0 0))) rfl trivial ?_
  refine xEvG_call xml xfetch (q := (some (0, fQ_in a1 0 ((xwr M a0 0 0) a0 6) (xwr M a0 0 0)), (xwr M a0 0 0))) rfl (hQ_in a1 0 ((xwr M a0 0 0) a0 6) (xwr M a0 0 0) _ rfl) ?_
  show xEv (95, 16, [some (13, a0), some (0, a1)], [(0, (fQ_in a1 0 ((xwr M a0 0 0) a0 6) (xwr M a0 0 0)))], (xwr M a0 0 0)) _
  refine xEvG_n xml xfetch 1 (y := (95, if (fQ_in a1 0 ((xwr M a0 0 0) a0 6) (xwr M a0 0 0)) = 0 then 19 else 21, [some (13, a0), some (0, a1)], [], (xwr M a0 0 0))) rfl trivial ?_
  refine xEvG_br xml xfetch (fun c_ => ?_) (fun c_ => ?_)
  · have h := xif_t c_ h
    refine xEvG_n xml xfetch 1 (y := (95, 20, [some (13, a0), some (0, a1)], [(0, (-1))], (xwr M a0 0 0))) rfl trivial ?_
    subst h
    exact xEvG_ret xml xfetch rfl
  · have h := xif_f c_ h
    refine xEvG_n xml xfetch 4 (y := (95, 27, [some (13, a0), some (0, a1)], [(0, a1)], (xwr (xwr M a0 0 0) a0 6 a1))) rfl trivial ?_
    subst h
    exact xEvG_ret xml xfetch rfl

/-- ConsentDoorsModel.fault(I)I -/
def fQ_fault (a0 a1 : Int) (M : xM) : Int × xM := ((if a1 = 0 then ((xwr M a0 0 0) a0 14) else (if a1 = 1 then ((xwr M a0 0 0) a0 15) else (-1) : Int) : Int), (xwr M a0 0 0))
theorem hQ_fault (a0 a1 : Int) (M : xM) (r : Int × xM) (h : fQ_fault a0 a1 M = r) : xEv (108, 0, [some (13, a0), some (0, a1)], [], M) (some (0, r.1), r.2) := by
  unfold fQ_fault at h
  refine xEvG_n xml xfetch 4 (y := (108, 6, [some (13, a0), some (0, a1)], [(0, a1)], (xwr M a0 0 0))) rfl trivial ?_
  have key_ : xEv (108, 29, [some (13, a0), some (0, a1)], [(0, (if a1 = 0 then ((xwr M a0 0 0) a0 14) else (if a1 = 1 then ((xwr M a0 0 0) a0 15) else (-1) : Int) : Int))], (xwr M a0 0 0)) (some (0, r.1), r.2) := by
    subst h
    exact xEvG_ret xml xfetch rfl
  refine xEvG_n xml xfetch 1 (y := (108, if a1 = 0 then 9 else 16, [some (13, a0), some (0, a1)], [], (xwr M a0 0 0))) rfl trivial ?_
  refine xEvG_br xml xfetch (fun c2_ => ?_) (fun c2_ => ?_)
  · refine xEvG_n xml xfetch 3 (y := (108, 29, [some (13, a0), some (0, a1)], [(0, ((xwr M a0 0 0) a0 14))], (xwr M a0 0 0))) rfl trivial ?_
    try simp only [if_pos c2_] at key_
    try simp only [if_pos c2_]
    exact key_
  · refine xEvG_n xml xfetch 3 (y := (108, if a1 = 1 then 21 else 28, [some (13, a0), some (0, a1)], [], (xwr M a0 0 0))) rfl trivial ?_
    refine xEvG_br xml xfetch (fun c4_ => ?_) (fun c4_ => ?_)
    · refine xEvG_n xml xfetch 3 (y := (108, 29, [some (13, a0), some (0, a1)], [(0, ((xwr M a0 0 0) a0 15))], (xwr M a0 0 0))) rfl trivial ?_
      try simp only [if_neg c2_, if_pos c4_] at key_
      try simp only [if_neg c2_, if_pos c4_]
      exact key_
    · refine xEvG_n xml xfetch 1 (y := (108, 29, [some (13, a0), some (0, a1)], [(0, (-1))], (xwr M a0 0 0))) rfl trivial ?_
      try simp only [if_neg c2_, if_neg c4_] at key_
      try simp only [if_neg c2_, if_neg c4_]
      exact key_

def fQ_clears_L41 (k_33 : Int → Int → xM → Option xM) : Nat → Int → Int → Int → xM → Option xM
  | 0, _, _, _, _ => none
  | g + 1, x0, x1, x2, M => if x2 < 6 then (if x2 = 3 then (xA (0 ≤ (xw32 ((xw32 (6 * (xw32 (36 + x1)))) + x2)) ∧ (xw32 ((xw32 (6 * (xw32 (36 + x1)))) + x2)) < 270) ((fQ_clears_L41 k_33 g) x0 x1 (xw32 (x2 + 1)) (xwr M (x0 + 8) (xw32 ((xw32 (6 * (xw32 (36 + x1)))) + x2)) 9))) else (if x2 = 4 then (xA (0 ≤ (xw32 ((xw32 (6 * (xw32 (36 + x1)))) + x2)) ∧ (xw32 ((xw32 (6 * (xw32 (36 + x1)))) + x2)) < 270) ((fQ_clears_L41 k_33 g) x0 x1 (xw32 (x2 + 1)) (xwr M (x0 + 8) (xw32 ((xw32 (6 * (xw32 (36 + x1)))) + x2)) 9))) else (xA (0 ≤ (xw32 ((xw32 (6 * (xw32 (36 + x1)))) + x2)) ∧ (xw32 ((xw32 (6 * (xw32 (36 + x1)))) + x2)) < 270) ((fQ_clears_L41 k_33 g) x0 x1 (xw32 (x2 + 1)) (xwr M (x0 + 8) (xw32 ((xw32 (6 * (xw32 (36 + x1)))) + x2)) 0))))) else (k_33 x0 (xw32 (x1 + 1)) M)
theorem hQ_clears_L41 (k_33 : Int → Int → xM → Option xM) (hk_33 : ∀ (x0 x1 : Int) (M : xM) (r : xM), k_33 x0 x1 M = some r → xEv (118, 33, [some (13, x0), some (0, x1), none], [], M) (none, r)) : ∀ (g : Nat) (x0 x1 x2 : Int) (M : xM) (r : xM) (h : fQ_clears_L41 k_33 g x0 x1 x2 M = some r), xEv (118, 41, [some (13, x0), some (0, x1), some (0, x2)], [], M) (none, r)
  | 0, _, _, _, _, _, h => by cases h
  | g + 1, x0, x1, x2, M, r, h => by
    unfold fQ_clears_L41 at h
    refine xEvG_n xml xfetch 3 (y := (118, if x2 < 6 then 47 else 83, [some (13, x0), some (0, x1), some (0, x2)], [], M)) rfl trivial ?_
    refine xEvG_br xml xfetch (fun c_ => ?_) (fun c_ => ?_)
    · have h := xif_t c_ h
      refine xEvG_n xml xfetch 12 (y := (118, if x2 = 3 then 70 else 65, [some (13, x0), some (0, x1), some (0, x2)], [(0, (xw32 ((xw32 (6 * (xw32 (36 + x1)))) + x2))), (35, (x0 + 8))], M)) rfl trivial ?_
      refine xEvG_br xml xfetch (fun c_ => ?_) (fun c_ => ?_)
      · have h := xif_t c_ h
        have a0_ := (xA_t h).1
        have h := (xA_t h).2
        refine xEvG_n xml xfetch 5 (y := (118, 41, [some (13, x0), some (0, x1), some (0, (xw32 (x2 + 1)))], [], (xwr M (x0 + 8) (xw32 ((xw32 (6 * (xw32 (36 + x1)))) + x2)) 9))) rfl ⟨a0_, trivial⟩ ?_
        refine xEvG_mask xml xfetch [true, true, true] ?_
        exact (hQ_clears_L41 k_33 hk_33 g) x0 x1 (xw32 (x2 + 1)) (xwr M (x0 + 8) (xw32 ((xw32 (6 * (xw32 (36 + x1)))) + x2)) 9) _ h
      · have h := xif_f c_ h
        refine xEvG_n xml xfetch 3 (y := (118, if x2 = 4 then 70 else 75, [some (13, x0), some (0, x1), some (0, x2)], [(0, (xw32 ((xw32 (6 * (xw32 (36 + x1)))) + x2))), (35, (x0 + 8))], M)) rfl trivial ?_
        refine xEvG_br xml xfetch (fun c_ => ?_) (fun c_ => ?_)
        · have h := xif_t c_ h
          have a0_ := (xA_t h).1
          have h := (xA_t h).2
          refine xEvG_n xml xfetch 5 (y := (118, 41, [some (13, x0), some (0, x1), some (0, (xw32 (x2 + 1)))], [], (xwr M (x0 + 8) (xw32 ((xw32 (6 * (xw32 (36 + x1)))) + x2)) 9))) rfl ⟨a0_, trivial⟩ ?_
          refine xEvG_mask xml xfetch [true, true, true] ?_
          exact (hQ_clears_L41 k_33 hk_33 g) x0 x1 (xw32 (x2 + 1)) (xwr M (x0 + 8) (xw32 ((xw32 (6 * (xw32 (36 + x1)))) + x2)) 9) _ h
        · have h := xif_f c_ h
          have a0_ := (xA_t h).1
          have h := (xA_t h).2
          refine xEvG_n xml xfetch 4 (y := (118, 41, [some (13, x0), some (0, x1), some (0, (xw32 (x2 + 1)))], [], (xwr M (x0 + 8) (xw32 ((xw32 (6 * (xw32 (36 + x1)))) + x2)) 0))) rfl ⟨a0_, trivial⟩ ?_
          refine xEvG_mask xml xfetch [true, true, true] ?_
          exact (hQ_clears_L41 k_33 hk_33 g) x0 x1 (xw32 (x2 + 1)) (xwr M (x0 + 8) (xw32 ((xw32 (6 * (xw32 (36 + x1)))) + x2)) 0) _ h
    · have h := xif_f c_ h
      refine xEvG_n xml xfetch 2 (y := (118, 33, [some (13, x0), some (0, (xw32 (x1 + 1))), some (0, x2)], [], M)) rfl trivial ?_
      refine xEvG_mask xml xfetch [true, true, false] ?_
      exact hk_33 x0 (xw32 (x1 + 1)) M _ h
def fQ_clears_L91 : Nat → Int → Int → xM → Option xM
  | 0, _, _, _ => none
  | g + 1, x0, x1, M => if x1 < 24 then (xA (0 ≤ (xw32 (96 + x1)) ∧ (xw32 (96 + x1)) < 120) ((fQ_clears_L91 g) x0 (xw32 (x1 + 1)) (xwr M (x0 + 11) (xw32 (96 + x1)) (-1)))) else (some M)
theorem hQ_clears_L91 : ∀ (g : Nat) (x0 x1 : Int) (M : xM) (r : xM) (h : fQ_clears_L91 g x0 x1 M = some r), xEv (118, 91, [some (13, x0), some (0, x1), none], [], M) (none, r)
  | 0, _, _, _, _, h => by cases h
  | g + 1, x0, x1, M, r, h => by
    unfold fQ_clears_L91 at h
    refine xEvG_n xml xfetch 3 (y := (118, if x1 < 24 then 97 else 113, [some (13, x0), some (0, x1), none], [], M)) rfl trivial ?_
    refine xEvG_br xml xfetch (fun c_ => ?_) (fun c_ => ?_)
    · have h := xif_t c_ h
      have a0_ := (xA_t h).1
      have h := (xA_t h).2
      refine xEvG_n xml xfetch 9 (y := (118, 91, [some (13, x0), some (0, (xw32 (x1 + 1))), none], [], (xwr M (x0 + 11) (xw32 (96 + x1)) (-1)))) rfl ⟨a0_, trivial⟩ ?_
      refine xEvG_mask xml xfetch [true, true, false] ?_
      exact (hQ_clears_L91 g) x0 (xw32 (x1 + 1)) (xwr M (x0 + 11) (xw32 (96 + x1)) (-1)) _ h
    · have h := xif_f c_ h
      cases h
      exact xEvG_ret xml xfetch rfl
def fQ_clears_L33 : Nat → Int → Int → xM → Option xM
  | 0, _, _, _ => none
  | g + 1, x0, x1, M => if x1 < 9 then (fQ_clears_L41 (fQ_clears_L33 g) 20001 x0 x1 0 M) else (fQ_clears_L91 20001 x0 0 M)
theorem hQ_clears_L33 : ∀ (g : Nat) (x0 x1 : Int) (M : xM) (r : xM) (h : fQ_clears_L33 g x0 x1 M = some r), xEv (118, 33, [some (13, x0), some (0, x1), none], [], M) (none, r)
  | 0, _, _, _, _, h => by cases h
  | g + 1, x0, x1, M, r, h => by
    unfold fQ_clears_L33 at h
    refine xEvG_n xml xfetch 3 (y := (118, if x1 < 9 then 39 else 89, [some (13, x0), some (0, x1), none], [], M)) rfl trivial ?_
    refine xEvG_br xml xfetch (fun c_ => ?_) (fun c_ => ?_)
    · have h := xif_t c_ h
      refine xEvG_n xml xfetch 2 (y := (118, 41, [some (13, x0), some (0, x1), some (0, 0)], [], M)) rfl trivial ?_
      refine xEvG_mask xml xfetch [true, true, true] ?_
      exact hQ_clears_L41 (fQ_clears_L33 g) (hQ_clears_L33 g) 20001 x0 x1 0 M _ h
    · have h := xif_f c_ h
      refine xEvG_n xml xfetch 2 (y := (118, 91, [some (13, x0), some (0, 0), none], [], M)) rfl trivial ?_
      refine xEvG_mask xml xfetch [true, true, false] ?_
      exact hQ_clears_L91 20001 x0 0 M _ h
def fQ_clears_L9 : Nat → Int → Int → xM → Option xM
  | 0, _, _, _ => none
  | g + 1, x0, x1, M => if x1 < 7 then (xA (0 ≤ (xw32 (28 + x1)) ∧ (xw32 (28 + x1)) < 35) ((fQ_clears_L9 g) x0 (xw32 (x1 + 1)) (xwr M (x0 + 7) (xw32 (28 + x1)) 0))) else (fQ_clears_L33 20001 x0 0 M)
theorem hQ_clears_L9 : ∀ (g : Nat) (x0 x1 : Int) (M : xM) (r : xM) (h : fQ_clears_L9 g x0 x1 M = some r), xEv (118, 9, [some (13, x0), some (0, x1), none], [], M) (none, r)
  | 0, _, _, _, _, h => by cases h
  | g + 1, x0, x1, M, r, h => by
    unfold fQ_clears_L9 at h
    refine xEvG_n xml xfetch 3 (y := (118, if x1 < 7 then 15 else 31, [some (13, x0), some (0, x1), none], [], M)) rfl trivial ?_
    refine xEvG_br xml xfetch (fun c_ => ?_) (fun c_ => ?_)
    · have h := xif_t c_ h
      have a0_ := (xA_t h).1
      have h := (xA_t h).2
      refine xEvG_n xml xfetch 9 (y := (118, 9, [some (13, x0), some (0, (xw32 (x1 + 1))), none], [], (xwr M (x0 + 7) (xw32 (28 + x1)) 0))) rfl ⟨a0_, trivial⟩ ?_
      refine xEvG_mask xml xfetch [true, true, false] ?_
      exact (hQ_clears_L9 g) x0 (xw32 (x1 + 1)) (xwr M (x0 + 7) (xw32 (28 + x1)) 0) _ h
    · have h := xif_f c_ h
      refine xEvG_n xml xfetch 2 (y := (118, 33, [some (13, x0), some (0, 0), none], [], M)) rfl trivial ?_
      refine xEvG_mask xml xfetch [true, true, false] ?_
      exact hQ_clears_L33 20001 x0 0 M _ h
/-- ConsentDoorsModel.clears()V -/
def fQ_clears (a0 : Int) (M : xM) : Option xM := fQ_clears_L9 20001 a0 0 (xwr M (a0 + 6) 4 0)
theorem hQ_clears (a0 : Int) (M : xM) (r : xM) (h : fQ_clears a0 M = some r) : xEv (118, 0, [some (13, a0), none, none], [], M) (none, r) := by
  unfold fQ_clears at h
  refine xEvG_n xml xfetch 7 (y := (118, 9, [some (13, a0), some (0, 0), none], [], (xwr M (a0 + 6) 4 0))) rfl ⟨by decide, trivial⟩ ?_
  refine xEvG_mask xml xfetch [true, true, false] ?_
  exact hQ_clears_L9 20001 a0 0 (xwr M (a0 + 6) 4 0) _ h

/-- ConsentDoorsModel.isByte(III)Z -/
def fQ_isByte (a0 a1 a2 a3 : Int) (M : xM) : Option Int := if a1 < (M a0 6) then (xA (0 ≤ a1 ∧ a1 < 1600) (if (M (a0 + 5) a1) < a2 then (some 0) else (xA (0 ≤ a1 ∧ a1 < 1600) (some (if a3 < (M (a0 + 5) a1) then 0 else 1 : Int))))) else (some 0)
theorem hQ_isByte (a0 a1 a2 a3 : Int) (M : xM) (r : Int) (h : fQ_isByte a0 a1 a2 a3 M = some r) : xEv (96, 0, [some (13, a0), some (0, a1), some (0, a2), some (0, a3)], [], M) (some (0, r), M) := by
  unfold fQ_isByte at h
  refine xEvG_n xml xfetch 4 (y := (96, if a1 < (M a0 6) then 8 else 32, [some (13, a0), some (0, a1), some (0, a2), some (0, a3)], [], M)) rfl trivial ?_
  refine xEvG_br xml xfetch (fun c_ => ?_) (fun c_ => ?_)
  · have h := xif_t c_ h
    have a0_ := (xA_t h).1
    have h := (xA_t h).2
    refine xEvG_n xml xfetch 6 (y := (96, if (M (a0 + 5) a1) < a2 then 32 else 18, [some (13, a0), some (0, a1), some (0, a2), some (0, a3)], [], M)) rfl ⟨a0_, trivial⟩ ?_
    refine xEvG_br xml xfetch (fun c_ => ?_) (fun c_ => ?_)
    · have h := xif_t c_ h
      refine xEvG_n xml xfetch 1 (y := (96, 33, [some (13, a0), some (0, a1), some (0, a2), some (0, a3)], [(0, 0)], M)) rfl trivial ?_
      cases h
      exact xEvG_retc xml xfetch rfl (Or.inl rfl)
    · have h := xif_f c_ h
      have a0_ := (xA_t h).1
      have h := (xA_t h).2
      refine xEvG_n xml xfetch 5 (y := (96, 25, [some (13, a0), some (0, a1), some (0, a2), some (0, a3)], [(0, a3), (0, (M (a0 + 5) a1))], M)) rfl ⟨a0_, trivial⟩ ?_
      have key_ : xEv (96, 33, [some (13, a0), some (0, a1), some (0, a2), some (0, a3)], [(0, (if a3 < (M (a0 + 5) a1) then 0 else 1 : Int))], M) (some (0, r), M) := by
        cases h
        exact xEvG_retc xml xfetch rfl (by (repeat' split) <;> first | exact Or.inl rfl | exact Or.inr rfl)
      refine xEvG_n xml xfetch 1 (y := (96, if a3 < (M (a0 + 5) a1) then 32 else 28, [some (13, a0), some (0, a1), some (0, a2), some (0, a3)], [], M)) rfl trivial ?_
      refine xEvG_br xml xfetch (fun c6_ => ?_) (fun c6_ => ?_)
      · refine xEvG_n xml xfetch 1 (y := (96, 33, [some (13, a0), some (0, a1), some (0, a2), some (0, a3)], [(0, 0)], M)) rfl trivial ?_
        try simp only [if_pos c6_] at key_
        try simp only [if_pos c6_]
        exact key_
      · refine xEvG_n xml xfetch 2 (y := (96, 33, [some (13, a0), some (0, a1), some (0, a2), some (0, a3)], [(0, 1)], M)) rfl trivial ?_
        try simp only [if_neg c6_] at key_
        try simp only [if_neg c6_]
        exact key_
  · have h := xif_f c_ h
    refine xEvG_n xml xfetch 1 (y := (96, 33, [some (13, a0), some (0, a1), some (0, a2), some (0, a3)], [(0, 0)], M)) rfl trivial ?_
    cases h
    exact xEvG_retc xml xfetch rfl (Or.inl rfl)

def fQ_next_L208 : Nat → Int → xM → Option xM
  | 0, _, _ => none
  | g + 1, x0, M => xB (fQ_isByte x0 (M x0 7) 48 57 M) (fun v5 => if v5 = 0 then (some M) else (if 100000 < (M x0 10) then ((fQ_next_L208 g) x0 (xwr (xwr M x0 10 1000000) x0 7 (xw32 (((xwr M x0 10 1000000) x0 7) + 1)))) else (xA (0 ≤ (M x0 7) ∧ (M x0 7) < 1600) ((fQ_next_L208 g) x0 (xwr (xwr M x0 10 (xw32 ((xw32 ((xw32 (10 * (M x0 10))) + (M (x0 + 5) (M x0 7)))) - 48))) x0 7 (xw32 (((xwr M x0 10 (xw32 ((xw32 ((xw32 (10 * (M x0 10))) + (M (x0 + 5) (M x0 7)))) - 48))) x0 7) + 1)))))))
theorem hQ_next_L208 : ∀ (g : Nat) (x0 : Int) (M : xM) (r : xM) (h : fQ_next_L208 g x0 M = some r), xEv (97, 208, [some (13, x0), none], [], M) (none, r)
  | 0, _, _, _, h => by cases h
  | g + 1, x0, M, r, h => by
    unfold fQ_next_L208 at h
    refine xEvG_n xml xfetch 5 (y := (97, 217, [some (13, x0), none], [(0, 57), (0, 48), (0, (M x0 7)), (13, x0)], M)) rfl trivial ?_
    obtain ⟨v5, e_, h⟩ := xB_t h
    refine xEvG_call xml xfetch (q := (some (0, v5), M)) rfl (hQ_isByte x0 (M x0 7) 48 57 M _ e_) ?_
    show xEv (97, 220, [some (13, x0), none], [(0, v5)], M) _
    refine xEvG_n xml xfetch 1 (y := (97, if v5 = 0 then 307 else 223, [some (13, x0), none], [], M)) rfl trivial ?_
    refine xEvG_br xml xfetch (fun c_ => ?_) (fun c_ => ?_)
    · have h := xif_t c_ h
      cases h
      exact xEvG_ret xml xfetch rfl
    · have h := xif_f c_ h
      refine xEvG_n xml xfetch 5 (y := (97, if 100000 < (M x0 10) then 233 else 238, [some (13, x0), none], [(13, x0)], M)) rfl trivial ?_
      refine xEvG_br xml xfetch (fun c_ => ?_) (fun c_ => ?_)
      · have h := xif_t c_ h
        refine xEvG_n xml xfetch 10 (y := (97, 208, [some (13, x0), none], [], (xwr (xwr M x0 10 1000000) x0 7 (xw32 (((xwr M x0 10 1000000) x0 7) + 1))))) rfl trivial ?_
        refine xEvG_mask xml xfetch [true, false] ?_
        exact (hQ_next_L208 g) x0 (xwr (xwr M x0 10 1000000) x0 7 (xw32 (((xwr M x0 10 1000000) x0 7) + 1))) _ h
      · have h := xif_f c_ h
        have a0_ := (xA_t h).1
        have h := (xA_t h).2
        refine xEvG_n xml xfetch 20 (y := (97, 208, [some (13, x0), none], [], (xwr (xwr M x0 10 (xw32 ((xw32 ((xw32 (10 * (M x0 10))) + (M (x0 + 5) (M x0 7)))) - 48))) x0 7 (xw32 (((xwr M x0 10 (xw32 ((xw32 ((xw32 (10 * (M x0 10))) + (M (x0 + 5) (M x0 7)))) - 48))) x0 7) + 1))))) rfl ⟨a0_, trivial⟩ ?_
        refine xEvG_mask xml xfetch [true, false] ?_
        exact (hQ_next_L208 g) x0 (xwr (xwr M x0 10 (xw32 ((xw32 ((xw32 (10 * (M x0 10))) + (M (x0 + 5) (M x0 7)))) - 48))) x0 7 (xw32 (((xwr M x0 10 (xw32 ((xw32 ((xw32 (10 * (M x0 10))) + (M (x0 + 5) (M x0 7)))) - 48))) x0 7) + 1))) _ h
def fQ_next_L153 (k_102 : Int → Int → xM → Option xM) (x0 x1 y0 y1 : Int) (M : xM) : Option xM := if 11 < x1 then (k_102 x0 (xw32 (x1 + 1)) (xwr (xwr (xwr M y1 11 y0) x0 11 (-1)) x0 7 (xw32 (((xwr (xwr M y1 11 y0) x0 11 (-1)) x0 7) + 1)))) else (k_102 x0 (xw32 (x1 + 1)) (xwr (xwr M y1 11 y0) x0 7 (xw32 (((xwr M y1 11 y0) x0 7) + 1))))
theorem hQ_next_L153 (k_102 : Int → Int → xM → Option xM) (hk_102 : ∀ (x0 x1 : Int) (M : xM) (r : xM), k_102 x0 x1 M = some r → xEv (97, 102, [some (13, x0), some (0, x1)], [], M) (none, r)) (x0 x1 y0 y1 : Int) (M : xM) (r : xM) (h : fQ_next_L153 k_102 x0 x1 y0 y1 M = some r) : xEv (97, 153, [some (13, x0), some (0, x1)], [(1, y0), (13, y1)], M) (none, r) := by
  unfold fQ_next_L153 at h
  refine xEvG_n xml xfetch 4 (y := (97, if 11 < x1 then 162 else 169, [some (13, x0), some (0, x1)], [], (xwr M y1 11 y0))) rfl trivial ?_
  refine xEvG_br xml xfetch (fun c_ => ?_) (fun c_ => ?_)
  · have h := xif_t c_ h
    refine xEvG_n xml xfetch 11 (y := (97, 102, [some (13, x0), some (0, (xw32 (x1 + 1)))], [], (xwr (xwr (xwr M y1 11 y0) x0 11 (-1)) x0 7 (xw32 (((xwr (xwr M y1 11 y0) x0 11 (-1)) x0 7) + 1))))) rfl trivial ?_
    refine xEvG_mask xml xfetch [true, true] ?_
    exact hk_102 x0 (xw32 (x1 + 1)) (xwr (xwr (xwr M y1 11 y0) x0 11 (-1)) x0 7 (xw32 (((xwr (xwr M y1 11 y0) x0 11 (-1)) x0 7) + 1))) _ h
  · have h := xif_f c_ h
    refine xEvG_n xml xfetch 8 (y := (97, 102, [some (13, x0), some (0, (xw32 (x1 + 1)))], [], (xwr (xwr M y1 11 y0) x0 7 (xw32 (((xwr M y1 11 y0) x0 7) + 1))))) rfl trivial ?_
    refine xEvG_mask xml xfetch [true, true] ?_
    exact hk_102 x0 (xw32 (x1 + 1)) (xwr (xwr M y1 11 y0) x0 7 (xw32 (((xwr M y1 11 y0) x0 7) + 1))) _ h
def fQ_next_L102 : Nat → Int → Int → xM → Option xM
  | 0, _, _, _ => none
  | g + 1, x0, x1, M => xB (fQ_isByte x0 (M x0 7) 97 122 M) (fun v6 => if v6 = 0 then (some M) else (if 11 < x1 then (fQ_next_L153 (fQ_next_L102 g) x0 x1 (-1) x0 M) else (xA (0 ≤ (M x0 7) ∧ (M x0 7) < 1600) (fQ_next_L153 (fQ_next_L102 g) x0 x1 (xw64 ((xw64 ((xw64 (27 * (M x0 11))) + (M (x0 + 5) (M x0 7)))) - 96)) x0 M))))
theorem hQ_next_L102 : ∀ (g : Nat) (x0 x1 : Int) (M : xM) (r : xM) (h : fQ_next_L102 g x0 x1 M = some r), xEv (97, 102, [some (13, x0), some (0, x1)], [], M) (none, r)
  | 0, _, _, _, _, h => by cases h
  | g + 1, x0, x1, M, r, h => by
    unfold fQ_next_L102 at h
    refine xEvG_n xml xfetch 5 (y := (97, 111, [some (13, x0), some (0, x1)], [(0, 122), (0, 97), (0, (M x0 7)), (13, x0)], M)) rfl trivial ?_
    obtain ⟨v6, e_, h⟩ := xB_t h
    refine xEvG_call xml xfetch (q := (some (0, v6), M)) rfl (hQ_isByte x0 (M x0 7) 97 122 M _ e_) ?_
    show xEv (97, 114, [some (13, x0), some (0, x1)], [(0, v6)], M) _
    refine xEvG_n xml xfetch 1 (y := (97, if v6 = 0 then 185 else 117, [some (13, x0), some (0, x1)], [], M)) rfl trivial ?_
    refine xEvG_br xml xfetch (fun c_ => ?_) (fun c_ => ?_)
    · have h := xif_t c_ h
      refine xEvG_n xml xfetch 1 (y := (97, 307, [some (13, x0), some (0, x1)], [], M)) rfl trivial ?_
      cases h
      exact xEvG_ret xml xfetch rfl
    · have h := xif_f c_ h
      refine xEvG_n xml xfetch 4 (y := (97, if 11 < x1 then 124 else 130, [some (13, x0), some (0, x1)], [(13, x0)], M)) rfl trivial ?_
      refine xEvG_br xml xfetch (fun c_ => ?_) (fun c_ => ?_)
      · have h := xif_t c_ h
        refine xEvG_n xml xfetch 2 (y := (97, 153, [some (13, x0), some (0, x1)], [(1, (-1)), (13, x0)], M)) rfl trivial ?_
        refine xEvG_mask xml xfetch [true, true] ?_
        exact hQ_next_L153 (fQ_next_L102 g) (hQ_next_L102 g) x0 x1 (-1) x0 M _ h
      · have h := xif_f c_ h
        have a0_ := (xA_t h).1
        have h := (xA_t h).2
        refine xEvG_n xml xfetch 13 (y := (97, 153, [some (13, x0), some (0, x1)], [(1, (xw64 ((xw64 ((xw64 (27 * (M x0 11))) + (M (x0 + 5) (M x0 7)))) - 96))), (13, x0)], M)) rfl ⟨a0_, trivial⟩ ?_
        refine xEvG_mask xml xfetch [true, true] ?_
        exact hQ_next_L153 (fQ_next_L102 g) (hQ_next_L102 g) x0 x1 (xw64 ((xw64 ((xw64 (27 * (M x0 11))) + (M (x0 + 5) (M x0 7)))) - 96)) x0 M _ h
def fQ_next_L0 : Nat → Int → xM → Option xM
  | 0, _, _ => none
  | g + 1, x0, M => xB (fQ_isByte x0 (M x0 7) 32 32 M) (fun v1 => if v1 = 0 then (xB (fQ_isByte x0 (M x0 7) 10 10 M) (fun v2 => if v2 = 0 then (if ((xwr (xwr (xwr M x0 9 (M x0 7)) x0 10 0) x0 11 0) x0 7) = ((xwr (xwr (xwr M x0 9 (M x0 7)) x0 10 0) x0 11 0) x0 6) then (some (xwr (xwr (xwr (xwr M x0 9 (M x0 7)) x0 10 0) x0 11 0) x0 8 0)) else (xB (fQ_isByte x0 ((xwr (xwr (xwr M x0 9 (M x0 7)) x0 10 0) x0 11 0) x0 7) 97 122 (xwr (xwr (xwr M x0 9 (M x0 7)) x0 10 0) x0 11 0)) (fun v3 => if v3 = 0 then (xB (fQ_isByte x0 ((xwr (xwr (xwr M x0 9 (M x0 7)) x0 10 0) x0 11 0) x0 7) 48 57 (xwr (xwr (xwr M x0 9 (M x0 7)) x0 10 0) x0 11 0)) (fun v4 => if v4 = 0 then (xA (0 ≤ ((xwr (xwr (xwr M x0 9 (M x0 7)) x0 10 0) x0 11 0) x0 7) ∧ ((xwr (xwr (xwr M x0 9 (M x0 7)) x0 10 0) x0 11 0) x0 7) < 1600) (some (xwr (xwr (xwr (xwr (xwr M x0 9 (M x0 7)) x0 10 0) x0 11 0) x0 8 (if ((xwr (xwr (xwr M x0 9 (M x0 7)) x0 10 0) x0 11 0) (x0 + 5) ((xwr (xwr (xwr M x0 9 (M x0 7)) x0 10 0) x0 11 0) x0 7)) = 59 then 3 else 4 : Int)) x0 7 (xw32 (((xwr (xwr (xwr (xwr M x0 9 (M x0 7)) x0 10 0) x0 11 0) x0 8 (if ((xwr (xwr (xwr M x0 9 (M x0 7)) x0 10 0) x0 11 0) (x0 + 5) ((xwr (xwr (xwr M x0 9 (M x0 7)) x0 10 0) x0 11 0) x0 7)) = 59 then 3 else 4 : Int)) x0 7) + 1))))) else (fQ_next_L208 20001 x0 (xwr (xwr (xwr (xwr M x0 9 (M x0 7)) x0 10 0) x0 11 0) x0 8 2)))) else (fQ_next_L102 20001 x0 0 (xwr (xwr (xwr (xwr M x0 9 (M x0 7)) x0 10 0) x0 11 0) x0 8 1))))) else ((fQ_next_L0 g) x0 (xwr M x0 7 (xw32 ((M x0 7) + 1)))))) else ((fQ_next_L0 g) x0 (xwr M x0 7 (xw32 ((M x0 7) + 1)))))
theorem hQ_next_L0 : ∀ (g : Nat) (x0 : Int) (M : xM) (r : xM) (h : fQ_next_L0 g x0 M = some r), xEv (97, 0, [some (13, x0), none], [], M) (none, r)
  | 0, _, _, _, h => by cases h
  | g + 1, x0, M, r, h => by
    unfold fQ_next_L0 at h
    refine xEvG_n xml xfetch 5 (y := (97, 9, [some (13, x0), none], [(0, 32), (0, 32), (0, (M x0 7)), (13, x0)], M)) rfl trivial ?_
    obtain ⟨v1, e_, h⟩ := xB_t h
    refine xEvG_call xml xfetch (q := (some (0, v1), M)) rfl (hQ_isByte x0 (M x0 7) 32 32 M _ e_) ?_
    show xEv (97, 12, [some (13, x0), none], [(0, v1)], M) _
    refine xEvG_n xml xfetch 1 (y := (97, if v1 = 0 then 15 else 30, [some (13, x0), none], [], M)) rfl trivial ?_
    refine xEvG_br xml xfetch (fun c_ => ?_) (fun c_ => ?_)
    · have h := xif_t c_ h
      refine xEvG_n xml xfetch 5 (y := (97, 24, [some (13, x0), none], [(0, 10), (0, 10), (0, (M x0 7)), (13, x0)], M)) rfl trivial ?_
      obtain ⟨v2, e_, h⟩ := xB_t h
      refine xEvG_call xml xfetch (q := (some (0, v2), M)) rfl (hQ_isByte x0 (M x0 7) 10 10 M _ e_) ?_
      show xEv (97, 27, [some (13, x0), none], [(0, v2)], M) _
      refine xEvG_n xml xfetch 1 (y := (97, if v2 = 0 then 43 else 30, [some (13, x0), none], [], M)) rfl trivial ?_
      refine xEvG_br xml xfetch (fun c_ => ?_) (fun c_ => ?_)
      · have h := xif_t c_ h
        refine xEvG_n xml xfetch 15 (y := (97, if ((xwr (xwr (xwr M x0 9 (M x0 7)) x0 10 0) x0 11 0) x0 7) = ((xwr (xwr (xwr M x0 9 (M x0 7)) x0 10 0) x0 11 0) x0 6) then 72 else 80, [some (13, x0), none], [], (xwr (xwr (xwr M x0 9 (M x0 7)) x0 10 0) x0 11 0))) rfl trivial ?_
        refine xEvG_br xml xfetch (fun c_ => ?_) (fun c_ => ?_)
        · have h := xif_t c_ h
          refine xEvG_n xml xfetch 4 (y := (97, 307, [some (13, x0), none], [], (xwr (xwr (xwr (xwr M x0 9 (M x0 7)) x0 10 0) x0 11 0) x0 8 0))) rfl trivial ?_
          cases h
          exact xEvG_ret xml xfetch rfl
        · have h := xif_f c_ h
          refine xEvG_n xml xfetch 5 (y := (97, 89, [some (13, x0), none], [(0, 122), (0, 97), (0, ((xwr (xwr (xwr M x0 9 (M x0 7)) x0 10 0) x0 11 0) x0 7)), (13, x0)], (xwr (xwr (xwr M x0 9 (M x0 7)) x0 10 0) x0 11 0))) rfl trivial ?_
          obtain ⟨v3, e_, h⟩ := xB_t h
          refine xEvG_call xml xfetch (q := (some (0, v3), (xwr (xwr (xwr M x0 9 (M x0 7)) x0 10 0) x0 11 0))) rfl (hQ_isByte x0 ((xwr (xwr (xwr M x0 9 (M x0 7)) x0 10 0) x0 11 0) x0 7) 97 122 (xwr (xwr (xwr M x0 9 (M x0 7)) x0 10 0) x0 11 0) _ e_) ?_
          show xEv (97, 92, [some (13, x0), none], [(0, v3)], (xwr (xwr (xwr M x0 9 (M x0 7)) x0 10 0) x0 11 0)) _
          refine xEvG_n xml xfetch 1 (y := (97, if v3 = 0 then 188 else 95, [some (13, x0), none], [], (xwr (xwr (xwr M x0 9 (M x0 7)) x0 10 0) x0 11 0))) rfl trivial ?_
          refine xEvG_br xml xfetch (fun c_ => ?_) (fun c_ => ?_)
          · have h := xif_t c_ h
            refine xEvG_n xml xfetch 5 (y := (97, 197, [some (13, x0), none], [(0, 57), (0, 48), (0, ((xwr (xwr (xwr M x0 9 (M x0 7)) x0 10 0) x0 11 0) x0 7)), (13, x0)], (xwr (xwr (xwr M x0 9 (M x0 7)) x0 10 0) x0 11 0))) rfl trivial ?_
            obtain ⟨v4, e_, h⟩ := xB_t h
            refine xEvG_call xml xfetch (q := (some (0, v4), (xwr (xwr (xwr M x0 9 (M x0 7)) x0 10 0) x0 11 0))) rfl (hQ_isByte x0 ((xwr (xwr (xwr M x0 9 (M x0 7)) x0 10 0) x0 11 0) x0 7) 48 57 (xwr (xwr (xwr M x0 9 (M x0 7)) x0 10 0) x0 11 0) _ e_) ?_
            show xEv (97, 200, [some (13, x0), none], [(0, v4)], (xwr (xwr (xwr M x0 9 (M x0 7)) x0 10 0) x0 11 0)) _
            refine xEvG_n xml xfetch 1 (y := (97, if v4 = 0 then 274 else 203, [some (13, x0), none], [], (xwr (xwr (xwr M x0 9 (M x0 7)) x0 10 0) x0 11 0))) rfl trivial ?_
            refine xEvG_br xml xfetch (fun c_ => ?_) (fun c_ => ?_)
            · have h := xif_t c_ h
              have a0_ := (xA_t h).1
              have h := (xA_t h).2
              refine xEvG_n xml xfetch 7 (y := (97, 286, [some (13, x0), none], [(0, 59), (0, ((xwr (xwr (xwr M x0 9 (M x0 7)) x0 10 0) x0 11 0) (x0 + 5) ((xwr (xwr (xwr M x0 9 (M x0 7)) x0 10 0) x0 11 0) x0 7))), (13, x0)], (xwr (xwr (xwr M x0 9 (M x0 7)) x0 10 0) x0 11 0))) rfl ⟨a0_, trivial⟩ ?_
              have key_ : xEv (97, 294, [some (13, x0), none], [(0, (if ((xwr (xwr (xwr M x0 9 (M x0 7)) x0 10 0) x0 11 0) (x0 + 5) ((xwr (xwr (xwr M x0 9 (M x0 7)) x0 10 0) x0 11 0) x0 7)) = 59 then 3 else 4 : Int)), (13, x0)], (xwr (xwr (xwr M x0 9 (M x0 7)) x0 10 0) x0 11 0)) (none, r) := by
                refine xEvG_n xml xfetch 7 (y := (97, 307, [some (13, x0), none], [], (xwr (xwr (xwr (xwr (xwr M x0 9 (M x0 7)) x0 10 0) x0 11 0) x0 8 (if ((xwr (xwr (xwr M x0 9 (M x0 7)) x0 10 0) x0 11 0) (x0 + 5) ((xwr (xwr (xwr M x0 9 (M x0 7)) x0 10 0) x0 11 0) x0 7)) = 59 then 3 else 4 : Int)) x0 7 (xw32 (((xwr (xwr (xwr (xwr M x0 9 (M x0 7)) x0 10 0) x0 11 0) x0 8 (if ((xwr (xwr (xwr M x0 9 (M x0 7)) x0 10 0) x0 11 0) (x0 + 5) ((xwr (xwr (xwr M x0 9 (M x0 7)) x0 10 0) x0 11 0) x0 7)) = 59 then 3 else 4 : Int)) x0 7) + 1))))) rfl trivial ?_
                cases h
                exact xEvG_ret xml xfetch rfl
              refine xEvG_n xml xfetch 1 (y := (97, if ((xwr (xwr (xwr M x0 9 (M x0 7)) x0 10 0) x0 11 0) (x0 + 5) ((xwr (xwr (xwr M x0 9 (M x0 7)) x0 10 0) x0 11 0) x0 7)) = 59 then 289 else 293, [some (13, x0), none], [(13, x0)], (xwr (xwr (xwr M x0 9 (M x0 7)) x0 10 0) x0 11 0))) rfl trivial ?_
              refine xEvG_br xml xfetch (fun c14_ => ?_) (fun c14_ => ?_)
              · refine xEvG_n xml xfetch 2 (y := (97, 294, [some (13, x0), none], [(0, 3), (13, x0)], (xwr (xwr (xwr M x0 9 (M x0 7)) x0 10 0) x0 11 0))) rfl trivial ?_
                try simp only [if_pos c14_] at key_
                try simp only [if_pos c14_]
                exact key_
              · refine xEvG_n xml xfetch 1 (y := (97, 294, [some (13, x0), none], [(0, 4), (13, x0)], (xwr (xwr (xwr M x0 9 (M x0 7)) x0 10 0) x0 11 0))) rfl trivial ?_
                try simp only [if_neg c14_] at key_
                try simp only [if_neg c14_]
                exact key_
            · have h := xif_f c_ h
              refine xEvG_n xml xfetch 3 (y := (97, 208, [some (13, x0), none], [], (xwr (xwr (xwr (xwr M x0 9 (M x0 7)) x0 10 0) x0 11 0) x0 8 2))) rfl trivial ?_
              refine xEvG_mask xml xfetch [true, false] ?_
              exact hQ_next_L208 20001 x0 (xwr (xwr (xwr (xwr M x0 9 (M x0 7)) x0 10 0) x0 11 0) x0 8 2) _ h
          · have h := xif_f c_ h
            refine xEvG_n xml xfetch 5 (y := (97, 102, [some (13, x0), some (0, 0)], [], (xwr (xwr (xwr (xwr M x0 9 (M x0 7)) x0 10 0) x0 11 0) x0 8 1))) rfl trivial ?_
            refine xEvG_mask xml xfetch [true, true] ?_
            exact hQ_next_L102 20001 x0 0 (xwr (xwr (xwr (xwr M x0 9 (M x0 7)) x0 10 0) x0 11 0) x0 8 1) _ h
      · have h := xif_f c_ h
        refine xEvG_n xml xfetch 7 (y := (97, 0, [some (13, x0), none], [], (xwr M x0 7 (xw32 ((M x0 7) + 1))))) rfl trivial ?_
        refine xEvG_mask xml xfetch [true, false] ?_
        exact (hQ_next_L0 g) x0 (xwr M x0 7 (xw32 ((M x0 7) + 1))) _ h
    · have h := xif_f c_ h
      refine xEvG_n xml xfetch 7 (y := (97, 0, [some (13, x0), none], [], (xwr M x0 7 (xw32 ((M x0 7) + 1))))) rfl trivial ?_
      refine xEvG_mask xml xfetch [true, false] ?_
      exact (hQ_next_L0 g) x0 (xwr M x0 7 (xw32 ((M x0 7) + 1))) _ h
/-- ConsentDoorsModel.next()V -/
def fQ_next (a0 : Int) (M : xM) : Option xM := fQ_next_L0 20001 a0 M
theorem hQ_next (a0 : Int) (M : xM) (r : xM) (h : fQ_next a0 M = some r) : xEv (97, 0, [some (13, a0), none], [], M) (none, r) := by
  unfold fQ_next at h
  refine xEvG_mask xml xfetch [true, false] ?_
  exact hQ_next_L0 20001 a0 M _ h

end
