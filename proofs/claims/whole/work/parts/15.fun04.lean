/-! the methods as functions, each with its proof (printed by wip/tools/fgen.py) -/
noncomputable section
/-- ConsentDoors.harmOf(I)I -/
def fD_harmOf (a0 a1 : Int) (M : xM) : Option (Int × xM) := xB (fPrison_copy (a0 + 26) (a0 + 15) M) (fun m1 => xA (0 ≤ a1 ∧ a1 < 9) (xB (fD_mostNow a0 (xwr m1 ((a0 + 26) + 1) a1 3)) (fun v2 => xB (fD_mostOfDraft a0 (xwr m1 ((a0 + 26) + 1) a1 3)) (fun q_ => match q_ with | (v3, m3) => some ((xw32 (v2 - v3)), m3)))))
theorem hD_harmOf (a0 a1 : Int) (M : xM) (r : Int × xM) (h : fD_harmOf a0 a1 M = some r) : xEv (43, 0, [some (2, a0), some (0, a1)], [], M) (some (0, r.1), r.2) := by
  unfold fD_harmOf at h
  refine xEvG_n xml xfetch 4 (y := (43, 8, [some (2, a0), some (0, a1)], [(8, (a0 + 15)), (8, (a0 + 26))], M)) rfl trivial ?_
  obtain ⟨m1, e_, h⟩ := xB_t h
  refine xEvG_call xml xfetch (q := (none, m1)) rfl (hPrison_copy (a0 + 26) (a0 + 15) M _ e_) ?_
  show xEv (43, 11, [some (2, a0), some (0, a1)], [], m1) _
  have a0_ := (xA_t h).1
  have h := (xA_t h).2
  refine xEvG_n xml xfetch 7 (y := (43, 22, [some (2, a0), some (0, a1)], [(2, a0)], (xwr m1 ((a0 + 26) + 1) a1 3))) rfl ⟨a0_, trivial⟩ ?_
  obtain ⟨v2, e_, h⟩ := xB_t h
  refine xEvG_call xml xfetch (q := (some (0, v2), (xwr m1 ((a0 + 26) + 1) a1 3))) rfl (hD_mostNow a0 (xwr m1 ((a0 + 26) + 1) a1 3) _ e_) ?_
  show xEv (43, 25, [some (2, a0), some (0, a1)], [(0, v2)], (xwr m1 ((a0 + 26) + 1) a1 3)) _
  refine xEvG_n xml xfetch 1 (y := (43, 26, [some (2, a0), some (0, a1)], [(2, a0), (0, v2)], (xwr m1 ((a0 + 26) + 1) a1 3))) rfl trivial ?_
  obtain ⟨⟨v3, m3⟩, e_, h⟩ := xB_t h
  refine xEvG_call xml xfetch (q := (some (0, v3), m3)) rfl (hD_mostOfDraft a0 (xwr m1 ((a0 + 26) + 1) a1 3) _ e_) ?_
  show xEv (43, 29, [some (2, a0), some (0, a1)], [(0, v3), (0, v2)], m3) _
  refine xEvG_n xml xfetch 1 (y := (43, 30, [some (2, a0), some (0, a1)], [(0, (xw32 (v2 - v3)))], m3)) rfl trivial ?_
  cases h
  exact xEvG_ret xml xfetch rfl

/-- ConsentDoors.harm(I)I -/
def fD_harm (a0 a1 : Int) (M : xM) : Option (Int × xM) := if (fPrison_hasCell (a0 + 15) a1 M) = 0 then (some ((-2), M)) else (xB (fD_harmOf a0 a1 M) (fun q_ => match q_ with | (v2, m2) => some (v2, m2)))
theorem hD_harm (a0 a1 : Int) (M : xM) (r : Int × xM) (h : fD_harm a0 a1 M = some r) : xEv (42, 0, [some (2, a0), some (0, a1)], [], M) (some (0, r.1), r.2) := by
  unfold fD_harm at h
  refine xEvG_n xml xfetch 3 (y := (42, 5, [some (2, a0), some (0, a1)], [(0, a1), (8, (a0 + 15))], M)) rfl trivial ?_
  refine xEvG_call xml xfetch (q := (some (0, fPrison_hasCell (a0 + 15) a1 M), M)) rfl (hPrison_hasCell (a0 + 15) a1 M _ rfl) ?_
  show xEv (42, 8, [some (2, a0), some (0, a1)], [(0, (fPrison_hasCell (a0 + 15) a1 M))], M) _
  refine xEvG_n xml xfetch 1 (y := (42, if (fPrison_hasCell (a0 + 15) a1 M) = 0 then 19 else 11, [some (2, a0), some (0, a1)], [], M)) rfl trivial ?_
  refine xEvG_br xml xfetch (fun c_ => ?_) (fun c_ => ?_)
  · have h := xif_t c_ h
    refine xEvG_n xml xfetch 1 (y := (42, 21, [some (2, a0), some (0, a1)], [(0, (-2))], M)) rfl trivial ?_
    cases h
    exact xEvG_ret xml xfetch rfl
  · have h := xif_f c_ h
    refine xEvG_n xml xfetch 2 (y := (42, 13, [some (2, a0), some (0, a1)], [(0, a1), (2, a0)], M)) rfl trivial ?_
    obtain ⟨⟨v2, m2⟩, e_, h⟩ := xB_t h
    refine xEvG_call xml xfetch (q := (some (0, v2), m2)) rfl (hD_harmOf a0 a1 M _ e_) ?_
    show xEv (42, 16, [some (2, a0), some (0, a1)], [(0, v2)], m2) _
    refine xEvG_n xml xfetch 1 (y := (42, 21, [some (2, a0), some (0, a1)], [(0, v2)], m2)) rfl trivial ?_
    cases h
    exact xEvG_ret xml xfetch rfl

def fD_courted_L19 : Nat → Int → Int → Int → Int → xM → Option (Int × xM)
  | 0, _, _, _, _, _ => none
  | g + 1, x0, x1, x2, x3, M => if x3 < (M (x0 + 15) 0) then (xB (fD_harmOf x0 x3 M) (fun q_ => match q_ with | (v2, m2) => if x1 < v2 then ((fD_courted_L19 g) x0 v2 x3 (xw32 (x3 + 1)) m2) else ((fD_courted_L19 g) x0 x1 x2 (xw32 (x3 + 1)) m2))) else (some (x2, M))
theorem hD_courted_L19 : ∀ (g : Nat) (x0 x1 x2 x3 : Int) (M : xM) (r : Int × xM) (h : fD_courted_L19 g x0 x1 x2 x3 M = some r), xEv (44, 19, [some (2, x0), some (0, x1), some (0, x2), some (0, x3), none], [], M) (some (0, r.1), r.2)
  | 0, _, _, _, _, _, _, h => by cases h
  | g + 1, x0, x1, x2, x3, M, r, h => by
    unfold fD_courted_L19 at h
    refine xEvG_n xml xfetch 5 (y := (44, if x3 < (M (x0 + 15) 0) then 30 else 54, [some (2, x0), some (0, x1), some (0, x2), some (0, x3), none], [], M)) rfl trivial ?_
    refine xEvG_br xml xfetch (fun c_ => ?_) (fun c_ => ?_)
    · have h := xif_t c_ h
      refine xEvG_n xml xfetch 2 (y := (44, 32, [some (2, x0), some (0, x1), some (0, x2), some (0, x3), none], [(0, x3), (2, x0)], M)) rfl trivial ?_
      obtain ⟨⟨v2, m2⟩, e_, h⟩ := xB_t h
      refine xEvG_call xml xfetch (q := (some (0, v2), m2)) rfl (hD_harmOf x0 x3 M _ e_) ?_
      show xEv (44, 35, [some (2, x0), some (0, x1), some (0, x2), some (0, x3), none], [(0, v2)], m2) _
      refine xEvG_n xml xfetch 4 (y := (44, if x1 < v2 then 43 else 48, [some (2, x0), some (0, x1), some (0, x2), some (0, x3), some (0, v2)], [], m2)) rfl trivial ?_
      refine xEvG_br xml xfetch (fun c_ => ?_) (fun c_ => ?_)
      · have h := xif_t c_ h
        refine xEvG_n xml xfetch 6 (y := (44, 19, [some (2, x0), some (0, v2), some (0, x3), some (0, (xw32 (x3 + 1))), some (0, v2)], [], m2)) rfl trivial ?_
        refine xEvG_mask xml xfetch [true, true, true, true, false] ?_
        exact (hD_courted_L19 g) x0 v2 x3 (xw32 (x3 + 1)) m2 _ h
      · have h := xif_f c_ h
        refine xEvG_n xml xfetch 2 (y := (44, 19, [some (2, x0), some (0, x1), some (0, x2), some (0, (xw32 (x3 + 1))), some (0, v2)], [], m2)) rfl trivial ?_
        refine xEvG_mask xml xfetch [true, true, true, true, false] ?_
        exact (hD_courted_L19 g) x0 x1 x2 (xw32 (x3 + 1)) m2 _ h
    · have h := xif_f c_ h
      refine xEvG_n xml xfetch 1 (y := (44, 55, [some (2, x0), some (0, x1), some (0, x2), some (0, x3), none], [(0, x2)], M)) rfl trivial ?_
      cases h
      exact xEvG_ret xml xfetch rfl
/-- ConsentDoors.courted()I -/
def fD_courted (a0 : Int) (M : xM) : Option (Int × xM) := if (fPrison_stands (a0 + 15) M) = 0 then (some ((-2), M)) else (fD_courted_L19 20001 a0 0 0 0 M)
theorem hD_courted (a0 : Int) (M : xM) (r : Int × xM) (h : fD_courted a0 M = some r) : xEv (44, 0, [some (2, a0), none, none, none, none], [], M) (some (0, r.1), r.2) := by
  unfold fD_courted at h
  refine xEvG_n xml xfetch 2 (y := (44, 4, [some (2, a0), none, none, none, none], [(8, (a0 + 15))], M)) rfl trivial ?_
  refine xEvG_call xml xfetch (q := (some (0, fPrison_stands (a0 + 15) M), M)) rfl (hPrison_stands (a0 + 15) M _ rfl) ?_
  show xEv (44, 7, [some (2, a0), none, none, none, none], [(0, (fPrison_stands (a0 + 15) M))], M) _
  refine xEvG_n xml xfetch 1 (y := (44, if (fPrison_stands (a0 + 15) M) = 0 then 10 else 13, [some (2, a0), none, none, none, none], [], M)) rfl trivial ?_
  refine xEvG_br xml xfetch (fun c_ => ?_) (fun c_ => ?_)
  · have h := xif_t c_ h
    refine xEvG_n xml xfetch 1 (y := (44, 12, [some (2, a0), none, none, none, none], [(0, (-2))], M)) rfl trivial ?_
    cases h
    exact xEvG_ret xml xfetch rfl
  · have h := xif_f c_ h
    refine xEvG_n xml xfetch 6 (y := (44, 19, [some (2, a0), some (0, 0), some (0, 0), some (0, 0), none], [], M)) rfl trivial ?_
    refine xEvG_mask xml xfetch [true, true, true, true, false] ?_
    exact hD_courted_L19 20001 a0 0 0 0 M _ h

/-- ConsentDoors.loyalty(I)I -/
def fD_loyalty (a0 a1 : Int) (M : xM) : Option (Int × xM) := if (fPrison_hasCell (a0 + 15) a1 M) = 0 then (some ((-2), M)) else (xB (fPrison_copy (a0 + 26) (a0 + 15) M) (fun m2 => xB (fD_mostOfDraft a0 (xwr m2 (a0 + 26) 4 (xor32 (m2 (a0 + 26) 4) (xshl 1 a1)))) (fun q_ => match q_ with | (v3, m3) => xB (fD_mostNow a0 m3) (fun v4 => some ((xw32 (v3 - v4)), m3)))))
theorem hD_loyalty (a0 a1 : Int) (M : xM) (r : Int × xM) (h : fD_loyalty a0 a1 M = some r) : xEv (45, 0, [some (2, a0), some (0, a1)], [], M) (some (0, r.1), r.2) := by
  unfold fD_loyalty at h
  refine xEvG_n xml xfetch 3 (y := (45, 5, [some (2, a0), some (0, a1)], [(0, a1), (8, (a0 + 15))], M)) rfl trivial ?_
  refine xEvG_call xml xfetch (q := (some (0, fPrison_hasCell (a0 + 15) a1 M), M)) rfl (hPrison_hasCell (a0 + 15) a1 M _ rfl) ?_
  show xEv (45, 8, [some (2, a0), some (0, a1)], [(0, (fPrison_hasCell (a0 + 15) a1 M))], M) _
  refine xEvG_n xml xfetch 1 (y := (45, if (fPrison_hasCell (a0 + 15) a1 M) = 0 then 11 else 14, [some (2, a0), some (0, a1)], [], M)) rfl trivial ?_
  refine xEvG_br xml xfetch (fun c_ => ?_) (fun c_ => ?_)
  · have h := xif_t c_ h
    refine xEvG_n xml xfetch 1 (y := (45, 13, [some (2, a0), some (0, a1)], [(0, (-2))], M)) rfl trivial ?_
    cases h
    exact xEvG_ret xml xfetch rfl
  · have h := xif_f c_ h
    refine xEvG_n xml xfetch 4 (y := (45, 22, [some (2, a0), some (0, a1)], [(8, (a0 + 15)), (8, (a0 + 26))], M)) rfl trivial ?_
    obtain ⟨m2, e_, h⟩ := xB_t h
    refine xEvG_call xml xfetch (q := (none, m2)) rfl (hPrison_copy (a0 + 26) (a0 + 15) M _ e_) ?_
    show xEv (45, 25, [some (2, a0), some (0, a1)], [], m2) _
    refine xEvG_n xml xfetch 10 (y := (45, 41, [some (2, a0), some (0, a1)], [(2, a0)], (xwr m2 (a0 + 26) 4 (xor32 (m2 (a0 + 26) 4) (xshl 1 a1))))) rfl trivial ?_
    obtain ⟨⟨v3, m3⟩, e_, h⟩ := xB_t h
    refine xEvG_call xml xfetch (q := (some (0, v3), m3)) rfl (hD_mostOfDraft a0 (xwr m2 (a0 + 26) 4 (xor32 (m2 (a0 + 26) 4) (xshl 1 a1))) _ e_) ?_
    show xEv (45, 44, [some (2, a0), some (0, a1)], [(0, v3)], m3) _
    refine xEvG_n xml xfetch 1 (y := (45, 45, [some (2, a0), some (0, a1)], [(2, a0), (0, v3)], m3)) rfl trivial ?_
    obtain ⟨v4, e_, h⟩ := xB_t h
    refine xEvG_call xml xfetch (q := (some (0, v4), m3)) rfl (hD_mostNow a0 m3 _ e_) ?_
    show xEv (45, 48, [some (2, a0), some (0, a1)], [(0, v4), (0, v3)], m3) _
    refine xEvG_n xml xfetch 1 (y := (45, 49, [some (2, a0), some (0, a1)], [(0, (xw32 (v3 - v4)))], m3)) rfl trivial ?_
    cases h
    exact xEvG_ret xml xfetch rfl

/-- ConsentDoors.isPoints(I)Z -/
def fD_isPoints (a0 : Int) (M : xM) : Int := (if a0 < 1 then 0 else (if 9 < a0 then 0 else 1 : Int) : Int)
theorem hD_isPoints (a0 : Int) (M : xM) (r : Int) (h : fD_isPoints a0 M = r) : xEv (85, 0, [some (0, a0)], [], M) (some (0, r), M) := by
  unfold fD_isPoints at h
  refine xEvG_n xml xfetch 2 (y := (85, 2, [some (0, a0)], [(0, 1), (0, a0)], M)) rfl trivial ?_
  have key_ : xEv (85, 16, [some (0, a0)], [(0, (if a0 < 1 then 0 else (if 9 < a0 then 0 else 1 : Int) : Int))], M) (some (0, r), M) := by
    subst h
    exact xEvG_retc xml xfetch rfl (by (repeat' split) <;> first | exact Or.inl rfl | exact Or.inr rfl)
  refine xEvG_n xml xfetch 1 (y := (85, if a0 < 1 then 15 else 5, [some (0, a0)], [], M)) rfl trivial ?_
  refine xEvG_br xml xfetch (fun c2_ => ?_) (fun c2_ => ?_)
  · refine xEvG_n xml xfetch 1 (y := (85, 16, [some (0, a0)], [(0, 0)], M)) rfl trivial ?_
    try simp only [if_pos c2_] at key_
    try simp only [if_pos c2_]
    exact key_
  · refine xEvG_n xml xfetch 3 (y := (85, if 9 < a0 then 15 else 11, [some (0, a0)], [], M)) rfl trivial ?_
    refine xEvG_br xml xfetch (fun c4_ => ?_) (fun c4_ => ?_)
    · refine xEvG_n xml xfetch 1 (y := (85, 16, [some (0, a0)], [(0, 0)], M)) rfl trivial ?_
      try simp only [if_neg c2_, if_pos c4_] at key_
      try simp only [if_neg c2_, if_pos c4_]
      exact key_
    · refine xEvG_n xml xfetch 2 (y := (85, 16, [some (0, a0)], [(0, 1)], M)) rfl trivial ?_
      try simp only [if_neg c2_, if_neg c4_] at key_
      try simp only [if_neg c2_, if_neg c4_]
      exact key_
theorem bD_isPoints (a0 : Int) (M : xM) : fD_isPoints a0 M = 0 ∨ fD_isPoints a0 M = 1 := by
  unfold fD_isPoints
  (repeat' split) <;> first | exact Or.inl rfl | exact Or.inr rfl | exact bD_isSide _ _ | exact bPrison_hasCell _ _ _ | exact bPrison_hasHour _ _ _ | exact bPrison_stands _ _

/-- ConsentDoors.gainBySoup(III)I -/
def fD_gainBySoup (a0 a1 a2 a3 : Int) (M : xM) : Option (Int × xM) := xB (fPrison_copy (a0 + 26) (a0 + 15) M) (fun m1 => xB (fPrison_addSoup (a0 + 26) a1 a2 a3 m1) (fun m2 => xB (fD_mostOfDraft a0 m2) (fun q_ => match q_ with | (v3, m3) => xB (fD_mostNow a0 m3) (fun v4 => some ((xw32 (v3 - v4)), m3)))))
theorem hD_gainBySoup (a0 a1 a2 a3 : Int) (M : xM) (r : Int × xM) (h : fD_gainBySoup a0 a1 a2 a3 M = some r) : xEv (47, 0, [some (2, a0), some (0, a1), some (0, a2), some (0, a3)], [], M) (some (0, r.1), r.2) := by
  unfold fD_gainBySoup at h
  refine xEvG_n xml xfetch 4 (y := (47, 8, [some (2, a0), some (0, a1), some (0, a2), some (0, a3)], [(8, (a0 + 15)), (8, (a0 + 26))], M)) rfl trivial ?_
  obtain ⟨m1, e_, h⟩ := xB_t h
  refine xEvG_call xml xfetch (q := (none, m1)) rfl (hPrison_copy (a0 + 26) (a0 + 15) M _ e_) ?_
  show xEv (47, 11, [some (2, a0), some (0, a1), some (0, a2), some (0, a3)], [], m1) _
  refine xEvG_n xml xfetch 5 (y := (47, 18, [some (2, a0), some (0, a1), some (0, a2), some (0, a3)], [(0, a3), (0, a2), (0, a1), (8, (a0 + 26))], m1)) rfl trivial ?_
  obtain ⟨m2, e_, h⟩ := xB_t h
  refine xEvG_call xml xfetch (q := (none, m2)) rfl (hPrison_addSoup (a0 + 26) a1 a2 a3 m1 _ e_) ?_
  show xEv (47, 21, [some (2, a0), some (0, a1), some (0, a2), some (0, a3)], [], m2) _
  refine xEvG_n xml xfetch 1 (y := (47, 22, [some (2, a0), some (0, a1), some (0, a2), some (0, a3)], [(2, a0)], m2)) rfl trivial ?_
  obtain ⟨⟨v3, m3⟩, e_, h⟩ := xB_t h
  refine xEvG_call xml xfetch (q := (some (0, v3), m3)) rfl (hD_mostOfDraft a0 m2 _ e_) ?_
  show xEv (47, 25, [some (2, a0), some (0, a1), some (0, a2), some (0, a3)], [(0, v3)], m3) _
  refine xEvG_n xml xfetch 1 (y := (47, 26, [some (2, a0), some (0, a1), some (0, a2), some (0, a3)], [(2, a0), (0, v3)], m3)) rfl trivial ?_
  obtain ⟨v4, e_, h⟩ := xB_t h
  refine xEvG_call xml xfetch (q := (some (0, v4), m3)) rfl (hD_mostNow a0 m3 _ e_) ?_
  show xEv (47, 29, [some (2, a0), some (0, a1), some (0, a2), some (0, a3)], [(0, v4), (0, v3)], m3) _
  refine xEvG_n xml xfetch 1 (y := (47, 30, [some (2, a0), some (0, a1), some (0, a2), some (0, a3)], [(0, (xw32 (v3 - v4)))], m3)) rfl trivial ?_
  cases h
  exact xEvG_ret xml xfetch rfl

/-- ConsentDoors.soup(IIII)I -/
def fD_soup (a0 a1 a2 a3 a4 : Int) (M : xM) : Option (Int × xM) := if (fPrison_hasCell (a0 + 15) a1 M) = 0 then (some ((-2), M)) else (if (fD_isSide a2 M) = 0 then (some ((-2), M)) else (if (fD_isPoints a3 M) = 0 then (some ((-2), M)) else (if (fPrison_hasHour (a0 + 15) a4 M) = 0 then (some ((-2), M)) else (if (fPrison_neighbour (a0 + 15) a1 a2 M) = (-1) then (some ((-2), M)) else (xB (fD_gainBySoup a0 (xw32 ((xw32 (2 * a1)) + a2)) a3 a4 M) (fun q_ => match q_ with | (v6, m6) => some (v6, m6)))))))
theorem hD_soup (a0 a1 a2 a3 a4 : Int) (M : xM) (r : Int × xM) (h : fD_soup a0 a1 a2 a3 a4 M = some r) : xEv (46, 0, [some (2, a0), some (0, a1), some (0, a2), some (0, a3), some (0, a4)], [], M) (some (0, r.1), r.2) := by
  unfold fD_soup at h
  refine xEvG_n xml xfetch 3 (y := (46, 5, [some (2, a0), some (0, a1), some (0, a2), some (0, a3), some (0, a4)], [(0, a1), (8, (a0 + 15))], M)) rfl trivial ?_
  refine xEvG_call xml xfetch (q := (some (0, fPrison_hasCell (a0 + 15) a1 M), M)) rfl (hPrison_hasCell (a0 + 15) a1 M _ rfl) ?_
  show xEv (46, 8, [some (2, a0), some (0, a1), some (0, a2), some (0, a3), some (0, a4)], [(0, (fPrison_hasCell (a0 + 15) a1 M))], M) _
  refine xEvG_n xml xfetch 1 (y := (46, if (fPrison_hasCell (a0 + 15) a1 M) = 0 then 50 else 11, [some (2, a0), some (0, a1), some (0, a2), some (0, a3), some (0, a4)], [], M)) rfl trivial ?_
  refine xEvG_br xml xfetch (fun c_ => ?_) (fun c_ => ?_)
  · have h := xif_t c_ h
    refine xEvG_n xml xfetch 1 (y := (46, 52, [some (2, a0), some (0, a1), some (0, a2), some (0, a3), some (0, a4)], [(0, (-2))], M)) rfl trivial ?_
    cases h
    exact xEvG_ret xml xfetch rfl
  · have h := xif_f c_ h
    refine xEvG_n xml xfetch 1 (y := (46, 12, [some (2, a0), some (0, a1), some (0, a2), some (0, a3), some (0, a4)], [(0, a2)], M)) rfl trivial ?_
    refine xEvG_call xml xfetch (q := (some (0, fD_isSide a2 M), M)) rfl (hD_isSide a2 M _ rfl) ?_
    show xEv (46, 15, [some (2, a0), some (0, a1), some (0, a2), some (0, a3), some (0, a4)], [(0, (fD_isSide a2 M))], M) _
    refine xEvG_n xml xfetch 1 (y := (46, if (fD_isSide a2 M) = 0 then 50 else 18, [some (2, a0), some (0, a1), some (0, a2), some (0, a3), some (0, a4)], [], M)) rfl trivial ?_
    refine xEvG_br xml xfetch (fun c_ => ?_) (fun c_ => ?_)
    · have h := xif_t c_ h
      refine xEvG_n xml xfetch 1 (y := (46, 52, [some (2, a0), some (0, a1), some (0, a2), some (0, a3), some (0, a4)], [(0, (-2))], M)) rfl trivial ?_
      cases h
      exact xEvG_ret xml xfetch rfl
    · have h := xif_f c_ h
      refine xEvG_n xml xfetch 1 (y := (46, 19, [some (2, a0), some (0, a1), some (0, a2), some (0, a3), some (0, a4)], [(0, a3)], M)) rfl trivial ?_
      refine xEvG_call xml xfetch (q := (some (0, fD_isPoints a3 M), M)) rfl (hD_isPoints a3 M _ rfl) ?_
      show xEv (46, 22, [some (2, a0), some (0, a1), some (0, a2), some (0, a3), some (0, a4)], [(0, (fD_isPoints a3 M))], M) _
      refine xEvG_n xml xfetch 1 (y := (46, if (fD_isPoints a3 M) = 0 then 50 else 25, [some (2, a0), some (0, a1), some (0, a2), some (0, a3), some (0, a4)], [], M)) rfl trivial ?_
      refine xEvG_br xml xfetch (fun c_ => ?_) (fun c_ => ?_)
      · have h := xif_t c_ h
        refine xEvG_n xml xfetch 1 (y := (46, 52, [some (2, a0), some (0, a1), some (0, a2), some (0, a3), some (0, a4)], [(0, (-2))], M)) rfl trivial ?_
        cases h
        exact xEvG_ret xml xfetch rfl
      · have h := xif_f c_ h
        refine xEvG_n xml xfetch 3 (y := (46, 31, [some (2, a0), some (0, a1), some (0, a2), some (0, a3), some (0, a4)], [(0, a4), (8, (a0 + 15))], M)) rfl trivial ?_
        refine xEvG_call xml xfetch (q := (some (0, fPrison_hasHour (a0 + 15) a4 M), M)) rfl (hPrison_hasHour (a0 + 15) a4 M _ rfl) ?_
        show xEv (46, 34, [some (2, a0), some (0, a1), some (0, a2), some (0, a3), some (0, a4)], [(0, (fPrison_hasHour (a0 + 15) a4 M))], M) _
        refine xEvG_n xml xfetch 1 (y := (46, if (fPrison_hasHour (a0 + 15) a4 M) = 0 then 50 else 37, [some (2, a0), some (0, a1), some (0, a2), some (0, a3), some (0, a4)], [], M)) rfl trivial ?_
        refine xEvG_br xml xfetch (fun c_ => ?_) (fun c_ => ?_)
        · have h := xif_t c_ h
          refine xEvG_n xml xfetch 1 (y := (46, 52, [some (2, a0), some (0, a1), some (0, a2), some (0, a3), some (0, a4)], [(0, (-2))], M)) rfl trivial ?_
          cases h
          exact xEvG_ret xml xfetch rfl
        · have h := xif_f c_ h
          refine xEvG_n xml xfetch 4 (y := (46, 43, [some (2, a0), some (0, a1), some (0, a2), some (0, a3), some (0, a4)], [(0, a2), (0, a1), (8, (a0 + 15))], M)) rfl trivial ?_
          refine xEvG_call xml xfetch (q := (some (0, fPrison_neighbour (a0 + 15) a1 a2 M), M)) rfl (hPrison_neighbour (a0 + 15) a1 a2 M _ rfl) ?_
          show xEv (46, 46, [some (2, a0), some (0, a1), some (0, a2), some (0, a3), some (0, a4)], [(0, (fPrison_neighbour (a0 + 15) a1 a2 M))], M) _
          refine xEvG_n xml xfetch 2 (y := (46, if (fPrison_neighbour (a0 + 15) a1 a2 M) = (-1) then 50 else 53, [some (2, a0), some (0, a1), some (0, a2), some (0, a3), some (0, a4)], [], M)) rfl trivial ?_
          refine xEvG_br xml xfetch (fun c_ => ?_) (fun c_ => ?_)
          · have h := xif_t c_ h
            refine xEvG_n xml xfetch 1 (y := (46, 52, [some (2, a0), some (0, a1), some (0, a2), some (0, a3), some (0, a4)], [(0, (-2))], M)) rfl trivial ?_
            cases h
            exact xEvG_ret xml xfetch rfl
          · have h := xif_f c_ h
            refine xEvG_n xml xfetch 8 (y := (46, 62, [some (2, a0), some (0, a1), some (0, a2), some (0, a3), some (0, a4)], [(0, a4), (0, a3), (0, (xw32 ((xw32 (2 * a1)) + a2))), (2, a0)], M)) rfl trivial ?_
            obtain ⟨⟨v6, m6⟩, e_, h⟩ := xB_t h
            refine xEvG_call xml xfetch (q := (some (0, v6), m6)) rfl (hD_gainBySoup a0 (xw32 ((xw32 (2 * a1)) + a2)) a3 a4 M _ e_) ?_
            show xEv (46, 65, [some (2, a0), some (0, a1), some (0, a2), some (0, a3), some (0, a4)], [(0, v6)], m6) _
            cases h
            exact xEvG_ret xml xfetch rfl

def fD_gift_L80 (k_27 : Int → Int → Int → Int → Int → xM → Option (Int × xM)) (x0 x1 x2 x3 x4 x5 x6 y0 : Int) (M : xM) : Option (Int × xM) := if x2 < y0 then (k_27 x0 x1 y0 (xw32 ((xw32 (10 * x5)) + x6)) (xw32 (x4 + 1)) M) else (k_27 x0 x1 x2 x3 (xw32 (x4 + 1)) M)
theorem hD_gift_L80 (k_27 : Int → Int → Int → Int → Int → xM → Option (Int × xM)) (hk_27 : ∀ (x0 x1 x2 x3 x4 : Int) (M : xM) (r : Int × xM), k_27 x0 x1 x2 x3 x4 M = some r → xEv (48, 27, [some (2, x0), some (0, x1), some (0, x2), some (0, x3), some (0, x4), none, none, none], [], M) (some (0, r.1), r.2)) (x0 x1 x2 x3 x4 x5 x6 y0 : Int) (M : xM) (r : Int × xM) (h : fD_gift_L80 k_27 x0 x1 x2 x3 x4 x5 x6 y0 M = some r) : xEv (48, 80, [some (2, x0), some (0, x1), some (0, x2), some (0, x3), some (0, x4), some (0, x5), some (0, x6), none], [(0, y0)], M) (some (0, r.1), r.2) := by
  unfold fD_gift_L80 at h
  refine xEvG_n xml xfetch 4 (y := (48, if x2 < y0 then 88 else 100, [some (2, x0), some (0, x1), some (0, x2), some (0, x3), some (0, x4), some (0, x5), some (0, x6), some (0, y0)], [], M)) rfl trivial ?_
  refine xEvG_br xml xfetch (fun c_ => ?_) (fun c_ => ?_)
  · have h := xif_t c_ h
    refine xEvG_n xml xfetch 10 (y := (48, 27, [some (2, x0), some (0, x1), some (0, y0), some (0, (xw32 ((xw32 (10 * x5)) + x6))), some (0, (xw32 (x4 + 1))), some (0, x5), some (0, x6), some (0, y0)], [], M)) rfl trivial ?_
    refine xEvG_mask xml xfetch [true, true, true, true, true, false, false, false] ?_
    exact hk_27 x0 x1 y0 (xw32 ((xw32 (10 * x5)) + x6)) (xw32 (x4 + 1)) M _ h
  · have h := xif_f c_ h
    refine xEvG_n xml xfetch 2 (y := (48, 27, [some (2, x0), some (0, x1), some (0, x2), some (0, x3), some (0, (xw32 (x4 + 1))), some (0, x5), some (0, x6), some (0, y0)], [], M)) rfl trivial ?_
    refine xEvG_mask xml xfetch [true, true, true, true, true, false, false, false] ?_
    exact hk_27 x0 x1 x2 x3 (xw32 (x4 + 1)) M _ h
def fD_gift_L27 : Nat → Int → Int → Int → Int → Int → xM → Option (Int × xM)
  | 0, _, _, _, _, _, _ => none
  | g + 1, x0, x1, x2, x3, x4, M => if x4 < (xw32 (2 * (M (x0 + 15) 0))) then (if (fPrison_neighbour (x0 + 15) (xdiv x4 2) (xrem x4 2) M) = (-1) then (fD_gift_L80 (fD_gift_L27 g) x0 x1 x2 x3 x4 (xdiv x4 2) (xrem x4 2) 0 M) else (xB (fD_gainBySoup x0 x4 x1 0 M) (fun q_ => match q_ with | (v4, m4) => if x2 < v4 then ((fD_gift_L27 g) x0 x1 v4 (xw32 ((xw32 (10 * (xdiv x4 2))) + (xrem x4 2))) (xw32 (x4 + 1)) m4) else ((fD_gift_L27 g) x0 x1 x2 x3 (xw32 (x4 + 1)) m4)))) else (some (x3, M))
theorem hD_gift_L27 : ∀ (g : Nat) (x0 x1 x2 x3 x4 : Int) (M : xM) (r : Int × xM) (h : fD_gift_L27 g x0 x1 x2 x3 x4 M = some r), xEv (48, 27, [some (2, x0), some (0, x1), some (0, x2), some (0, x3), some (0, x4), none, none, none], [], M) (some (0, r.1), r.2)
  | 0, _, _, _, _, _, _, _, h => by cases h
  | g + 1, x0, x1, x2, x3, x4, M, r, h => by
    unfold fD_gift_L27 at h
    refine xEvG_n xml xfetch 7 (y := (48, if x4 < (xw32 (2 * (M (x0 + 15) 0))) then 41 else 106, [some (2, x0), some (0, x1), some (0, x2), some (0, x3), some (0, x4), none, none, none], [], M)) rfl trivial ?_
    refine xEvG_br xml xfetch (fun c_ => ?_) (fun c_ => ?_)
    · have h := xif_t c_ h
      refine xEvG_n xml xfetch 12 (y := (48, 61, [some (2, x0), some (0, x1), some (0, x2), some (0, x3), some (0, x4), some (0, (xdiv x4 2)), some (0, (xrem x4 2)), none], [(0, (xrem x4 2)), (0, (xdiv x4 2)), (8, (x0 + 15))], M)) rfl ⟨by decide, by decide, trivial⟩ ?_
      refine xEvG_call xml xfetch (q := (some (0, fPrison_neighbour (x0 + 15) (xdiv x4 2) (xrem x4 2) M), M)) rfl (hPrison_neighbour (x0 + 15) (xdiv x4 2) (xrem x4 2) M _ rfl) ?_
      show xEv (48, 64, [some (2, x0), some (0, x1), some (0, x2), some (0, x3), some (0, x4), some (0, (xdiv x4 2)), some (0, (xrem x4 2)), none], [(0, (fPrison_neighbour (x0 + 15) (xdiv x4 2) (xrem x4 2) M))], M) _
      refine xEvG_n xml xfetch 2 (y := (48, if (fPrison_neighbour (x0 + 15) (xdiv x4 2) (xrem x4 2) M) = (-1) then 68 else 72, [some (2, x0), some (0, x1), some (0, x2), some (0, x3), some (0, x4), some (0, (xdiv x4 2)), some (0, (xrem x4 2)), none], [], M)) rfl trivial ?_
      refine xEvG_br xml xfetch (fun c_ => ?_) (fun c_ => ?_)
      · have h := xif_t c_ h
        refine xEvG_n xml xfetch 2 (y := (48, 80, [some (2, x0), some (0, x1), some (0, x2), some (0, x3), some (0, x4), some (0, (xdiv x4 2)), some (0, (xrem x4 2)), none], [(0, 0)], M)) rfl trivial ?_
        refine xEvG_mask xml xfetch [true, true, true, true, true, true, true, false] ?_
        exact hD_gift_L80 (fD_gift_L27 g) (hD_gift_L27 g) x0 x1 x2 x3 x4 (xdiv x4 2) (xrem x4 2) 0 M _ h
      · have h := xif_f c_ h
        refine xEvG_n xml xfetch 4 (y := (48, 77, [some (2, x0), some (0, x1), some (0, x2), some (0, x3), some (0, x4), some (0, (xdiv x4 2)), some (0, (xrem x4 2)), none], [(0, 0), (0, x1), (0, x4), (2, x0)], M)) rfl trivial ?_
        obtain ⟨⟨v4, m4⟩, e_, h⟩ := xB_t h
        refine xEvG_call xml xfetch (q := (some (0, v4), m4)) rfl (hD_gainBySoup x0 x4 x1 0 M _ e_) ?_
        show xEv (48, 80, [some (2, x0), some (0, x1), some (0, x2), some (0, x3), some (0, x4), some (0, (xdiv x4 2)), some (0, (xrem x4 2)), none], [(0, v4)], m4) _
        refine xEvG_n xml xfetch 4 (y := (48, if x2 < v4 then 88 else 100, [some (2, x0), some (0, x1), some (0, x2), some (0, x3), some (0, x4), some (0, (xdiv x4 2)), some (0, (xrem x4 2)), some (0, v4)], [], m4)) rfl trivial ?_
        refine xEvG_br xml xfetch (fun c_ => ?_) (fun c_ => ?_)
        · have h := xif_t c_ h
          refine xEvG_n xml xfetch 10 (y := (48, 27, [some (2, x0), some (0, x1), some (0, v4), some (0, (xw32 ((xw32 (10 * (xdiv x4 2))) + (xrem x4 2)))), some (0, (xw32 (x4 + 1))), some (0, (xdiv x4 2)), some (0, (xrem x4 2)), some (0, v4)], [], m4)) rfl trivial ?_
          refine xEvG_mask xml xfetch [true, true, true, true, true, false, false, false] ?_
          exact (hD_gift_L27 g) x0 x1 v4 (xw32 ((xw32 (10 * (xdiv x4 2))) + (xrem x4 2))) (xw32 (x4 + 1)) m4 _ h
        · have h := xif_f c_ h
          refine xEvG_n xml xfetch 2 (y := (48, 27, [some (2, x0), some (0, x1), some (0, x2), some (0, x3), some (0, (xw32 (x4 + 1))), some (0, (xdiv x4 2)), some (0, (xrem x4 2)), some (0, v4)], [], m4)) rfl trivial ?_
          refine xEvG_mask xml xfetch [true, true, true, true, true, false, false, false] ?_
          exact (hD_gift_L27 g) x0 x1 x2 x3 (xw32 (x4 + 1)) m4 _ h
    · have h := xif_f c_ h
      refine xEvG_n xml xfetch 1 (y := (48, 107, [some (2, x0), some (0, x1), some (0, x2), some (0, x3), some (0, x4), none, none, none], [(0, x3)], M)) rfl trivial ?_
      cases h
      exact xEvG_ret xml xfetch rfl
/-- ConsentDoors.gift(I)I -/
def fD_gift (a0 a1 : Int) (M : xM) : Option (Int × xM) := if (fPrison_stands (a0 + 15) M) = 0 then (some ((-2), M)) else (if (fD_isPoints a1 M) = 0 then (some ((-2), M)) else (fD_gift_L27 20001 a0 a1 0 (-1) 0 M))
theorem hD_gift (a0 a1 : Int) (M : xM) (r : Int × xM) (h : fD_gift a0 a1 M = some r) : xEv (48, 0, [some (2, a0), some (0, a1), none, none, none, none, none, none], [], M) (some (0, r.1), r.2) := by
  unfold fD_gift at h
  refine xEvG_n xml xfetch 2 (y := (48, 4, [some (2, a0), some (0, a1), none, none, none, none, none, none], [(8, (a0 + 15))], M)) rfl trivial ?_
  refine xEvG_call xml xfetch (q := (some (0, fPrison_stands (a0 + 15) M), M)) rfl (hPrison_stands (a0 + 15) M _ rfl) ?_
  show xEv (48, 7, [some (2, a0), some (0, a1), none, none, none, none, none, none], [(0, (fPrison_stands (a0 + 15) M))], M) _
  refine xEvG_n xml xfetch 1 (y := (48, if (fPrison_stands (a0 + 15) M) = 0 then 17 else 10, [some (2, a0), some (0, a1), none, none, none, none, none, none], [], M)) rfl trivial ?_
  refine xEvG_br xml xfetch (fun c_ => ?_) (fun c_ => ?_)
  · have h := xif_t c_ h
    refine xEvG_n xml xfetch 1 (y := (48, 19, [some (2, a0), some (0, a1), none, none, none, none, none, none], [(0, (-2))], M)) rfl trivial ?_
    cases h
    exact xEvG_ret xml xfetch rfl
  · have h := xif_f c_ h
    refine xEvG_n xml xfetch 1 (y := (48, 11, [some (2, a0), some (0, a1), none, none, none, none, none, none], [(0, a1)], M)) rfl trivial ?_
    refine xEvG_call xml xfetch (q := (some (0, fD_isPoints a1 M), M)) rfl (hD_isPoints a1 M _ rfl) ?_
    show xEv (48, 14, [some (2, a0), some (0, a1), none, none, none, none, none, none], [(0, (fD_isPoints a1 M))], M) _
    refine xEvG_n xml xfetch 1 (y := (48, if (fD_isPoints a1 M) = 0 then 17 else 20, [some (2, a0), some (0, a1), none, none, none, none, none, none], [], M)) rfl trivial ?_
    refine xEvG_br xml xfetch (fun c_ => ?_) (fun c_ => ?_)
    · have h := xif_t c_ h
      refine xEvG_n xml xfetch 1 (y := (48, 19, [some (2, a0), some (0, a1), none, none, none, none, none, none], [(0, (-2))], M)) rfl trivial ?_
      cases h
      exact xEvG_ret xml xfetch rfl
    · have h := xif_f c_ h
      refine xEvG_n xml xfetch 6 (y := (48, 27, [some (2, a0), some (0, a1), some (0, 0), some (0, (-1)), some (0, 0), none, none, none], [], M)) rfl trivial ?_
      refine xEvG_mask xml xfetch [true, true, true, true, true, false, false, false] ?_
      exact hD_gift_L27 20001 a0 a1 0 (-1) 0 M _ h

/-- ConsentDoors.other(I)I -/
def fD_other (a0 a1 : Int) (M : xM) : Option (Int × xM) := if (fPrison_stands (a0 + 15) M) = 0 then (some ((-1000), M)) else (if a1 < 0 then (some ((-1000), M)) else (if 4 < a1 then (some ((-1000), M)) else (if (if a1 = 4 then (if (M (a0 + 15) 0) < 3 then 1 else 0 : Int) else 0 : Int) = 0 then (xB (fPrison_copy (a0 + 26) (a0 + 15) M) (fun m2 => if a1 < 0 then (xB (fD_mostOfDraft a0 (xwr m2 (a0 + 26) 3 (if (m2 (a0 + 15) 3) = 0 then 1 else 0 : Int))) (fun q_ => match q_ with | (v3, m3) => xB (fD_mostNow a0 m3) (fun v4 => some ((xw32 (v3 - v4)), m3)))) else (if (a1 - 0) = 0 then (xB (fJA_fill_k21 ((a0 + 26) + 5) 0 m2) (fun m5 => xB (fD_mostOfDraft a0 m5) (fun q_ => match q_ with | (v6, m6) => xB (fD_mostNow a0 m6) (fun v7 => some ((xw32 (v6 - v7)), m6))))) else (if ((a1 - 0) - 1) = 0 then (xB (fJA_fill_k22 ((a0 + 26) + 6) 9 m2) (fun m8 => xB (fD_mostOfDraft a0 m8) (fun q_ => match q_ with | (v9, m9) => xB (fD_mostNow a0 m9) (fun v10 => some ((xw32 (v9 - v10)), m9))))) else (if (((a1 - 0) - 1) - 1) = 0 then (xB (fD_mostOfDraft a0 (xwr m2 (a0 + 26) 5 0)) (fun q_ => match q_ with | (v11, m11) => xB (fD_mostNow a0 m11) (fun v12 => some ((xw32 (v11 - v12)), m11)))) else (if ((((a1 - 0) - 1) - 1) - 1) = 0 then (xB (fJA_fill_k21 ((a0 + 26) + 1) 0 m2) (fun m13 => xB (fD_mostOfDraft a0 m13) (fun q_ => match q_ with | (v14, m14) => xB (fD_mostNow a0 m14) (fun v15 => some ((xw32 (v14 - v15)), m14))))) else (xB (fD_mostOfDraft a0 (xwr m2 (a0 + 26) 3 (if (m2 (a0 + 15) 3) = 0 then 1 else 0 : Int))) (fun q_ => match q_ with | (v16, m16) => xB (fD_mostNow a0 m16) (fun v17 => some ((xw32 (v16 - v17)), m16)))))))))) else (some ((-1000), M)))))
theorem hD_other (a0 a1 : Int) (M : xM) (r : Int × xM) (h : fD_other a0 a1 M = some r) : xEv (49, 0, [some (2, a0), some (0, a1), none], [], M) (some (0, r.1), r.2) := by
  unfold fD_other at h
  refine xEvG_n xml xfetch 2 (y := (49, 2, [some (2, a0), some (0, a1), none], [(0, 4), (0, a1)], M)) rfl trivial ?_
  have key_ : xEv (49, 21, [some (2, a0), some (0, a1), none], [(0, (if a1 = 4 then (if (M (a0 + 15) 0) < 3 then 1 else 0 : Int) else 0 : Int))], M) (some (0, r.1), r.2) := by
    refine xEvG_n xml xfetch 3 (y := (49, 26, [some (2, a0), some (0, a1), some (0, (if a1 = 4 then (if (M (a0 + 15) 0) < 3 then 1 else 0 : Int) else 0 : Int))], [(8, (a0 + 15))], M)) rfl trivial ?_
    refine xEvG_call xml xfetch (q := (some (0, fPrison_stands (a0 + 15) M), M)) rfl (hPrison_stands (a0 + 15) M _ rfl) ?_
    show xEv (49, 29, [some (2, a0), some (0, a1), some (0, (if a1 = 4 then (if (M (a0 + 15) 0) < 3 then 1 else 0 : Int) else 0 : Int))], [(0, (fPrison_stands (a0 + 15) M))], M) _
    refine xEvG_n xml xfetch 1 (y := (49, if (fPrison_stands (a0 + 15) M) = 0 then 45 else 32, [some (2, a0), some (0, a1), some (0, (if a1 = 4 then (if (M (a0 + 15) 0) < 3 then 1 else 0 : Int) else 0 : Int))], [], M)) rfl trivial ?_
    refine xEvG_br xml xfetch (fun c_ => ?_) (fun c_ => ?_)
    · have h := xif_t c_ h
      refine xEvG_n xml xfetch 1 (y := (49, 48, [some (2, a0), some (0, a1), some (0, (if a1 = 4 then (if (M (a0 + 15) 0) < 3 then 1 else 0 : Int) else 0 : Int))], [(0, (-1000))], M)) rfl trivial ?_
      cases h
      exact xEvG_ret xml xfetch rfl
    · have h := xif_f c_ h
      refine xEvG_n xml xfetch 2 (y := (49, if a1 < 0 then 45 else 36, [some (2, a0), some (0, a1), some (0, (if a1 = 4 then (if (M (a0 + 15) 0) < 3 then 1 else 0 : Int) else 0 : Int))], [], M)) rfl trivial ?_
      refine xEvG_br xml xfetch (fun c_ => ?_) (fun c_ => ?_)
      · have h := xif_t c_ h
        refine xEvG_n xml xfetch 1 (y := (49, 48, [some (2, a0), some (0, a1), some (0, (if a1 = 4 then (if (M (a0 + 15) 0) < 3 then 1 else 0 : Int) else 0 : Int))], [(0, (-1000))], M)) rfl trivial ?_
        cases h
        exact xEvG_ret xml xfetch rfl
      · have h := xif_f c_ h
        refine xEvG_n xml xfetch 3 (y := (49, if 4 < a1 then 45 else 41, [some (2, a0), some (0, a1), some (0, (if a1 = 4 then (if (M (a0 + 15) 0) < 3 then 1 else 0 : Int) else 0 : Int))], [], M)) rfl trivial ?_
        refine xEvG_br xml xfetch (fun c_ => ?_) (fun c_ => ?_)
        · have h := xif_t c_ h
          refine xEvG_n xml xfetch 1 (y := (49, 48, [some (2, a0), some (0, a1), some (0, (if a1 = 4 then (if (M (a0 + 15) 0) < 3 then 1 else 0 : Int) else 0 : Int))], [(0, (-1000))], M)) rfl trivial ?_
          cases h
          exact xEvG_ret xml xfetch rfl
        · have h := xif_f c_ h
          refine xEvG_n xml xfetch 2 (y := (49, if (if a1 = 4 then (if (M (a0 + 15) 0) < 3 then 1 else 0 : Int) else 0 : Int) = 0 then 49 else 45, [some (2, a0), some (0, a1), some (0, (if a1 = 4 then (if (M (a0 + 15) 0) < 3 then 1 else 0 : Int) else 0 : Int))], [], M)) rfl trivial ?_
          refine xEvG_br xml xfetch (fun c_ => ?_) (fun c_ => ?_)
          · have h := xif_t c_ h
            refine xEvG_n xml xfetch 4 (y := (49, 57, [some (2, a0), some (0, a1), some (0, (if a1 = 4 then (if (M (a0 + 15) 0) < 3 then 1 else 0 : Int) else 0 : Int))], [(8, (a0 + 15)), (8, (a0 + 26))], M)) rfl trivial ?_
            obtain ⟨m2, e_, h⟩ := xB_t h
            refine xEvG_call xml xfetch (q := (none, m2)) rfl (hPrison_copy (a0 + 26) (a0 + 15) M _ e_) ?_
            show xEv (49, 60, [some (2, a0), some (0, a1), some (0, (if a1 = 4 then (if (M (a0 + 15) 0) < 3 then 1 else 0 : Int) else 0 : Int))], [], m2) _
            refine xEvG_n xml xfetch 2 (y := (49, (if a1 < 0 then 146 else (if (a1 - 0) = 0 then 92 else (if ((a1 - 0) - 1) = 0 then 106 else (if (((a1 - 0) - 1) - 1) = 0 then 121 else (if ((((a1 - 0) - 1) - 1) - 1) = 0 then 132 else 146))))), [some (2, a0), some (0, a1), some (0, (if a1 = 4 then (if (M (a0 + 15) 0) < 3 then 1 else 0 : Int) else 0 : Int))], [], m2)) rfl trivial ?_
            refine xEvG_br xml xfetch (fun c_ => ?_) (fun c_ => ?_)
            · have h := xif_t c_ h
              refine xEvG_n xml xfetch 5 (y := (49, 157, [some (2, a0), some (0, a1), some (0, (if a1 = 4 then (if (M (a0 + 15) 0) < 3 then 1 else 0 : Int) else 0 : Int))], [(0, (m2 (a0 + 15) 3)), (8, (a0 + 26))], m2)) rfl trivial ?_
              have key_ : xEv (49, 165, [some (2, a0), some (0, a1), some (0, (if a1 = 4 then (if (M (a0 + 15) 0) < 3 then 1 else 0 : Int) else 0 : Int))], [(0, (if (m2 (a0 + 15) 3) = 0 then 1 else 0 : Int)), (8, (a0 + 26))], m2) (some (0, r.1), r.2) := by
                refine xEvG_n xml xfetch 2 (y := (49, 169, [some (2, a0), some (0, a1), some (0, (if a1 = 4 then (if (M (a0 + 15) 0) < 3 then 1 else 0 : Int) else 0 : Int))], [(2, a0)], (xwr m2 (a0 + 26) 3 (if (m2 (a0 + 15) 3) = 0 then 1 else 0 : Int)))) rfl ⟨(by (repeat' split) <;> first | exact Or.inl rfl | exact Or.inr rfl), trivial⟩ ?_
                obtain ⟨⟨v3, m3⟩, e_, h⟩ := xB_t h
                refine xEvG_call xml xfetch (q := (some (0, v3), m3)) rfl (hD_mostOfDraft a0 (xwr m2 (a0 + 26) 3 (if (m2 (a0 + 15) 3) = 0 then 1 else 0 : Int)) _ e_) ?_
                show xEv (49, 172, [some (2, a0), some (0, a1), some (0, (if a1 = 4 then (if (M (a0 + 15) 0) < 3 then 1 else 0 : Int) else 0 : Int))], [(0, v3)], m3) _
                refine xEvG_n xml xfetch 1 (y := (49, 173, [some (2, a0), some (0, a1), some (0, (if a1 = 4 then (if (M (a0 + 15) 0) < 3 then 1 else 0 : Int) else 0 : Int))], [(2, a0), (0, v3)], m3)) rfl trivial ?_
                obtain ⟨v4, e_, h⟩ := xB_t h
                refine xEvG_call xml xfetch (q := (some (0, v4), m3)) rfl (hD_mostNow a0 m3 _ e_) ?_
                show xEv (49, 176, [some (2, a0), some (0, a1), some (0, (if a1 = 4 then (if (M (a0 + 15) 0) < 3 then 1 else 0 : Int) else 0 : Int))], [(0, v4), (0, v3)], m3) _
                refine xEvG_n xml xfetch 1 (y := (49, 177, [some (2, a0), some (0, a1), some (0, (if a1 = 4 then (if (M (a0 + 15) 0) < 3 then 1 else 0 : Int) else 0 : Int))], [(0, (xw32 (v3 - v4)))], m3)) rfl trivial ?_
                cases h
                exact xEvG_ret xml xfetch rfl
              refine xEvG_n xml xfetch 1 (y := (49, if (m2 (a0 + 15) 3) = 0 then 160 else 164, [some (2, a0), some (0, a1), some (0, (if a1 = 4 then (if (M (a0 + 15) 0) < 3 then 1 else 0 : Int) else 0 : Int))], [(8, (a0 + 26))], m2)) rfl trivial ?_
              refine xEvG_br xml xfetch (fun c14_ => ?_) (fun c14_ => ?_)
              · refine xEvG_n xml xfetch 2 (y := (49, 165, [some (2, a0), some (0, a1), some (0, (if a1 = 4 then (if (M (a0 + 15) 0) < 3 then 1 else 0 : Int) else 0 : Int))], [(0, 1), (8, (a0 + 26))], m2)) rfl trivial ?_
                try simp only [if_pos c14_] at key_
                try simp only [if_pos c14_]
                exact key_
              · refine xEvG_n xml xfetch 1 (y := (49, 165, [some (2, a0), some (0, a1), some (0, (if a1 = 4 then (if (M (a0 + 15) 0) < 3 then 1 else 0 : Int) else 0 : Int))], [(0, 0), (8, (a0 + 26))], m2)) rfl trivial ?_
                try simp only [if_neg c14_] at key_
                try simp only [if_neg c14_]
                exact key_
            · have h := xif_f c_ h
              refine xEvG_br xml xfetch (fun c_ => ?_) (fun c_ => ?_)
              · have h := xif_t c_ h
                refine xEvG_n xml xfetch 4 (y := (49, 100, [some (2, a0), some (0, a1), some (0, (if a1 = 4 then (if (M (a0 + 15) 0) < 3 then 1 else 0 : Int) else 0 : Int))], [(0, 0), (23, ((a0 + 26) + 5))], m2)) rfl trivial ?_
                obtain ⟨m5, e_, h⟩ := xB_t h
                refine xEvG_call xml xfetch (q := (none, m5)) rfl (hJA_fill_k21 ((a0 + 26) + 5) 0 m2 _ e_) ?_
                show xEv (49, 103, [some (2, a0), some (0, a1), some (0, (if a1 = 4 then (if (M (a0 + 15) 0) < 3 then 1 else 0 : Int) else 0 : Int))], [], m5) _
                refine xEvG_n xml xfetch 2 (y := (49, 169, [some (2, a0), some (0, a1), some (0, (if a1 = 4 then (if (M (a0 + 15) 0) < 3 then 1 else 0 : Int) else 0 : Int))], [(2, a0)], m5)) rfl trivial ?_
                obtain ⟨⟨v6, m6⟩, e_, h⟩ := xB_t h
                refine xEvG_call xml xfetch (q := (some (0, v6), m6)) rfl (hD_mostOfDraft a0 m5 _ e_) ?_
                show xEv (49, 172, [some (2, a0), some (0, a1), some (0, (if a1 = 4 then (if (M (a0 + 15) 0) < 3 then 1 else 0 : Int) else 0 : Int))], [(0, v6)], m6) _
                refine xEvG_n xml xfetch 1 (y := (49, 173, [some (2, a0), some (0, a1), some (0, (if a1 = 4 then (if (M (a0 + 15) 0) < 3 then 1 else 0 : Int) else 0 : Int))], [(2, a0), (0, v6)], m6)) rfl trivial ?_
                obtain ⟨v7, e_, h⟩ := xB_t h
                refine xEvG_call xml xfetch (q := (some (0, v7), m6)) rfl (hD_mostNow a0 m6 _ e_) ?_
                show xEv (49, 176, [some (2, a0), some (0, a1), some (0, (if a1 = 4 then (if (M (a0 + 15) 0) < 3 then 1 else 0 : Int) else 0 : Int))], [(0, v7), (0, v6)], m6) _
                refine xEvG_n xml xfetch 1 (y := (49, 177, [some (2, a0), some (0, a1), some (0, (if a1 = 4 then (if (M (a0 + 15) 0) < 3 then 1 else 0 : Int) else 0 : Int))], [(0, (xw32 (v6 - v7)))], m6)) rfl trivial ?_
                cases h
                exact xEvG_ret xml xfetch rfl
              · have h := xif_f c_ h
                refine xEvG_br xml xfetch (fun c_ => ?_) (fun c_ => ?_)
                · have h := xif_t c_ h
                  refine xEvG_n xml xfetch 4 (y := (49, 115, [some (2, a0), some (0, a1), some (0, (if a1 = 4 then (if (M (a0 + 15) 0) < 3 then 1 else 0 : Int) else 0 : Int))], [(0, 9), (24, ((a0 + 26) + 6))], m2)) rfl trivial ?_
                  obtain ⟨m8, e_, h⟩ := xB_t h
                  refine xEvG_call xml xfetch (q := (none, m8)) rfl (hJA_fill_k22 ((a0 + 26) + 6) 9 m2 _ e_) ?_
                  show xEv (49, 118, [some (2, a0), some (0, a1), some (0, (if a1 = 4 then (if (M (a0 + 15) 0) < 3 then 1 else 0 : Int) else 0 : Int))], [], m8) _
                  refine xEvG_n xml xfetch 2 (y := (49, 169, [some (2, a0), some (0, a1), some (0, (if a1 = 4 then (if (M (a0 + 15) 0) < 3 then 1 else 0 : Int) else 0 : Int))], [(2, a0)], m8)) rfl trivial ?_
                  obtain ⟨⟨v9, m9⟩, e_, h⟩ := xB_t h
                  refine xEvG_call xml xfetch (q := (some (0, v9), m9)) rfl (hD_mostOfDraft a0 m8 _ e_) ?_
                  show xEv (49, 172, [some (2, a0), some (0, a1), some (0, (if a1 = 4 then (if (M (a0 + 15) 0) < 3 then 1 else 0 : Int) else 0 : Int))], [(0, v9)], m9) _
                  refine xEvG_n xml xfetch 1 (y := (49, 173, [some (2, a0), some (0, a1), some (0, (if a1 = 4 then (if (M (a0 + 15) 0) < 3 then 1 else 0 : Int) else 0 : Int))], [(2, a0), (0, v9)], m9)) rfl trivial ?_
                  obtain ⟨v10, e_, h⟩ := xB_t h
                  refine xEvG_call xml xfetch (q := (some (0, v10), m9)) rfl (hD_mostNow a0 m9 _ e_) ?_
                  show xEv (49, 176, [some (2, a0), some (0, a1), some (0, (if a1 = 4 then (if (M (a0 + 15) 0) < 3 then 1 else 0 : Int) else 0 : Int))], [(0, v10), (0, v9)], m9) _
                  refine xEvG_n xml xfetch 1 (y := (49, 177, [some (2, a0), some (0, a1), some (0, (if a1 = 4 then (if (M (a0 + 15) 0) < 3 then 1 else 0 : Int) else 0 : Int))], [(0, (xw32 (v9 - v10)))], m9)) rfl trivial ?_
                  cases h
                  exact xEvG_ret xml xfetch rfl
                · have h := xif_f c_ h
                  refine xEvG_br xml xfetch (fun c_ => ?_) (fun c_ => ?_)
                  · have h := xif_t c_ h
                    refine xEvG_n xml xfetch 6 (y := (49, 169, [some (2, a0), some (0, a1), some (0, (if a1 = 4 then (if (M (a0 + 15) 0) < 3 then 1 else 0 : Int) else 0 : Int))], [(2, a0)], (xwr m2 (a0 + 26) 5 0))) rfl trivial ?_
                    obtain ⟨⟨v11, m11⟩, e_, h⟩ := xB_t h
                    refine xEvG_call xml xfetch (q := (some (0, v11), m11)) rfl (hD_mostOfDraft a0 (xwr m2 (a0 + 26) 5 0) _ e_) ?_
                    show xEv (49, 172, [some (2, a0), some (0, a1), some (0, (if a1 = 4 then (if (M (a0 + 15) 0) < 3 then 1 else 0 : Int) else 0 : Int))], [(0, v11)], m11) _
                    refine xEvG_n xml xfetch 1 (y := (49, 173, [some (2, a0), some (0, a1), some (0, (if a1 = 4 then (if (M (a0 + 15) 0) < 3 then 1 else 0 : Int) else 0 : Int))], [(2, a0), (0, v11)], m11)) rfl trivial ?_
                    obtain ⟨v12, e_, h⟩ := xB_t h
                    refine xEvG_call xml xfetch (q := (some (0, v12), m11)) rfl (hD_mostNow a0 m11 _ e_) ?_
                    show xEv (49, 176, [some (2, a0), some (0, a1), some (0, (if a1 = 4 then (if (M (a0 + 15) 0) < 3 then 1 else 0 : Int) else 0 : Int))], [(0, v12), (0, v11)], m11) _
                    refine xEvG_n xml xfetch 1 (y := (49, 177, [some (2, a0), some (0, a1), some (0, (if a1 = 4 then (if (M (a0 + 15) 0) < 3 then 1 else 0 : Int) else 0 : Int))], [(0, (xw32 (v11 - v12)))], m11)) rfl trivial ?_
                    cases h
                    exact xEvG_ret xml xfetch rfl
                  · have h := xif_f c_ h
                    refine xEvG_br xml xfetch (fun c_ => ?_) (fun c_ => ?_)
                    · have h := xif_t c_ h
                      refine xEvG_n xml xfetch 4 (y := (49, 140, [some (2, a0), some (0, a1), some (0, (if a1 = 4 then (if (M (a0 + 15) 0) < 3 then 1 else 0 : Int) else 0 : Int))], [(0, 0), (23, ((a0 + 26) + 1))], m2)) rfl trivial ?_
                      obtain ⟨m13, e_, h⟩ := xB_t h
                      refine xEvG_call xml xfetch (q := (none, m13)) rfl (hJA_fill_k21 ((a0 + 26) + 1) 0 m2 _ e_) ?_
                      show xEv (49, 143, [some (2, a0), some (0, a1), some (0, (if a1 = 4 then (if (M (a0 + 15) 0) < 3 then 1 else 0 : Int) else 0 : Int))], [], m13) _
                      refine xEvG_n xml xfetch 2 (y := (49, 169, [some (2, a0), some (0, a1), some (0, (if a1 = 4 then (if (M (a0 + 15) 0) < 3 then 1 else 0 : Int) else 0 : Int))], [(2, a0)], m13)) rfl trivial ?_
                      obtain ⟨⟨v14, m14⟩, e_, h⟩ := xB_t h
                      refine xEvG_call xml xfetch (q := (some (0, v14), m14)) rfl (hD_mostOfDraft a0 m13 _ e_) ?_
                      show xEv (49, 172, [some (2, a0), some (0, a1), some (0, (if a1 = 4 then (if (M (a0 + 15) 0) < 3 then 1 else 0 : Int) else 0 : Int))], [(0, v14)], m14) _
                      refine xEvG_n xml xfetch 1 (y := (49, 173, [some (2, a0), some (0, a1), some (0, (if a1 = 4 then (if (M (a0 + 15) 0) < 3 then 1 else 0 : Int) else 0 : Int))], [(2, a0), (0, v14)], m14)) rfl trivial ?_
                      obtain ⟨v15, e_, h⟩ := xB_t h
                      refine xEvG_call xml xfetch (q := (some (0, v15), m14)) rfl (hD_mostNow a0 m14 _ e_) ?_
                      show xEv (49, 176, [some (2, a0), some (0, a1), some (0, (if a1 = 4 then (if (M (a0 + 15) 0) < 3 then 1 else 0 : Int) else 0 : Int))], [(0, v15), (0, v14)], m14) _
                      refine xEvG_n xml xfetch 1 (y := (49, 177, [some (2, a0), some (0, a1), some (0, (if a1 = 4 then (if (M (a0 + 15) 0) < 3 then 1 else 0 : Int) else 0 : Int))], [(0, (xw32 (v14 - v15)))], m14)) rfl trivial ?_
                      cases h
                      exact xEvG_ret xml xfetch rfl
                    · have h := xif_f c_ h
                      refine xEvG_n xml xfetch 5 (y := (49, 157, [some (2, a0), some (0, a1), some (0, (if a1 = 4 then (if (M (a0 + 15) 0) < 3 then 1 else 0 : Int) else 0 : Int))], [(0, (m2 (a0 + 15) 3)), (8, (a0 + 26))], m2)) rfl trivial ?_
                      have key_ : xEv (49, 165, [some (2, a0), some (0, a1), some (0, (if a1 = 4 then (if (M (a0 + 15) 0) < 3 then 1 else 0 : Int) else 0 : Int))], [(0, (if (m2 (a0 + 15) 3) = 0 then 1 else 0 : Int)), (8, (a0 + 26))], m2) (some (0, r.1), r.2) := by
                        refine xEvG_n xml xfetch 2 (y := (49, 169, [some (2, a0), some (0, a1), some (0, (if a1 = 4 then (if (M (a0 + 15) 0) < 3 then 1 else 0 : Int) else 0 : Int))], [(2, a0)], (xwr m2 (a0 + 26) 3 (if (m2 (a0 + 15) 3) = 0 then 1 else 0 : Int)))) rfl ⟨(by (repeat' split) <;> first | exact Or.inl rfl | exact Or.inr rfl), trivial⟩ ?_
                        obtain ⟨⟨v16, m16⟩, e_, h⟩ := xB_t h
                        refine xEvG_call xml xfetch (q := (some (0, v16), m16)) rfl (hD_mostOfDraft a0 (xwr m2 (a0 + 26) 3 (if (m2 (a0 + 15) 3) = 0 then 1 else 0 : Int)) _ e_) ?_
                        show xEv (49, 172, [some (2, a0), some (0, a1), some (0, (if a1 = 4 then (if (M (a0 + 15) 0) < 3 then 1 else 0 : Int) else 0 : Int))], [(0, v16)], m16) _
                        refine xEvG_n xml xfetch 1 (y := (49, 173, [some (2, a0), some (0, a1), some (0, (if a1 = 4 then (if (M (a0 + 15) 0) < 3 then 1 else 0 : Int) else 0 : Int))], [(2, a0), (0, v16)], m16)) rfl trivial ?_
                        obtain ⟨v17, e_, h⟩ := xB_t h
                        refine xEvG_call xml xfetch (q := (some (0, v17), m16)) rfl (hD_mostNow a0 m16 _ e_) ?_
                        show xEv (49, 176, [some (2, a0), some (0, a1), some (0, (if a1 = 4 then (if (M (a0 + 15) 0) < 3 then 1 else 0 : Int) else 0 : Int))], [(0, v17), (0, v16)], m16) _
                        refine xEvG_n xml xfetch 1 (y := (49, 177, [some (2, a0), some (0, a1), some (0, (if a1 = 4 then (if (M (a0 + 15) 0) < 3 then 1 else 0 : Int) else 0 : Int))], [(0, (xw32 (v16 - v17)))], m16)) rfl trivial ?_
                        cases h
                        exact xEvG_ret xml xfetch rfl
                      refine xEvG_n xml xfetch 1 (y := (49, if (m2 (a0 + 15) 3) = 0 then 160 else 164, [some (2, a0), some (0, a1), some (0, (if a1 = 4 then (if (M (a0 + 15) 0) < 3 then 1 else 0 : Int) else 0 : Int))], [(8, (a0 + 26))], m2)) rfl trivial ?_
                      refine xEvG_br xml xfetch (fun c22_ => ?_) (fun c22_ => ?_)
                      · refine xEvG_n xml xfetch 2 (y := (49, 165, [some (2, a0), some (0, a1), some (0, (if a1 = 4 then (if (M (a0 + 15) 0) < 3 then 1 else 0 : Int) else 0 : Int))], [(0, 1), (8, (a0 + 26))], m2)) rfl trivial ?_
                        try simp only [if_pos c22_] at key_
                        try simp only [if_pos c22_]
                        exact key_
                      · refine xEvG_n xml xfetch 1 (y := (49, 165, [some (2, a0), some (0, a1), some (0, (if a1 = 4 then (if (M (a0 + 15) 0) < 3 then 1 else 0 : Int) else 0 : Int))], [(0, 0), (8, (a0 + 26))], m2)) rfl trivial ?_
                        try simp only [if_neg c22_] at key_
                        try simp only [if_neg c22_]
                        exact key_
          · have h := xif_f c_ h
            refine xEvG_n xml xfetch 1 (y := (49, 48, [some (2, a0), some (0, a1), some (0, (if a1 = 4 then (if (M (a0 + 15) 0) < 3 then 1 else 0 : Int) else 0 : Int))], [(0, (-1000))], M)) rfl trivial ?_
            cases h
            exact xEvG_ret xml xfetch rfl
  refine xEvG_n xml xfetch 1 (y := (49, if a1 = 4 then 5 else 20, [some (2, a0), some (0, a1), none], [], M)) rfl trivial ?_
  refine xEvG_br xml xfetch (fun c2_ => ?_) (fun c2_ => ?_)
  · refine xEvG_n xml xfetch 5 (y := (49, if (M (a0 + 15) 0) < 3 then 16 else 20, [some (2, a0), some (0, a1), none], [], M)) rfl trivial ?_
    refine xEvG_br xml xfetch (fun c4_ => ?_) (fun c4_ => ?_)
    · refine xEvG_n xml xfetch 2 (y := (49, 21, [some (2, a0), some (0, a1), none], [(0, 1)], M)) rfl trivial ?_
      try simp only [if_pos c2_, if_pos c4_] at key_
      try simp only [if_pos c2_, if_pos c4_]
      exact key_
    · refine xEvG_n xml xfetch 1 (y := (49, 21, [some (2, a0), some (0, a1), none], [(0, 0)], M)) rfl trivial ?_
      try simp only [if_pos c2_, if_neg c4_] at key_
      try simp only [if_pos c2_, if_neg c4_]
      exact key_
  · refine xEvG_n xml xfetch 1 (y := (49, 21, [some (2, a0), some (0, a1), none], [(0, 0)], M)) rfl trivial ?_
    try simp only [if_neg c2_] at key_
    try simp only [if_neg c2_]
    exact key_

def fD_openDoors_L14 : Nat → Int → Int → Int → Int → Int → xM → Option Int
  | 0, _, _, _, _, _, _ => none
  | g + 1, x0, x1, x2, x3, x4, M => if x4 < (M (x0 + 15) 0) then (xB (fKeys_opensFor ((x0 + 37) + 1) x4 x1 x3 M) (fun v2 => if v2 = 0 then ((fD_openDoors_L14 g) x0 x1 x2 x3 (xw32 (x4 + 1)) M) else ((fD_openDoors_L14 g) x0 x1 (xor32 x2 (xshl 1 x4)) x3 (xw32 (x4 + 1)) M))) else (some x2)
theorem hD_openDoors_L14 : ∀ (g : Nat) (x0 x1 x2 x3 x4 : Int) (M : xM) (r : Int) (h : fD_openDoors_L14 g x0 x1 x2 x3 x4 M = some r), xEv (51, 14, [some (2, x0), some (0, x1), some (0, x2), some (0, x3), some (0, x4)], [], M) (some (0, r), M)
  | 0, _, _, _, _, _, _, _, h => by cases h
  | g + 1, x0, x1, x2, x3, x4, M, r, h => by
    unfold fD_openDoors_L14 at h
    refine xEvG_n xml xfetch 5 (y := (51, if x4 < (M (x0 + 15) 0) then 26 else 56, [some (2, x0), some (0, x1), some (0, x2), some (0, x3), some (0, x4)], [], M)) rfl trivial ?_
    refine xEvG_br xml xfetch (fun c_ => ?_) (fun c_ => ?_)
    · have h := xif_t c_ h
      refine xEvG_n xml xfetch 6 (y := (51, 37, [some (2, x0), some (0, x1), some (0, x2), some (0, x3), some (0, x4)], [(0, x3), (0, x1), (0, x4), (6, ((x0 + 37) + 1))], M)) rfl trivial ?_
      obtain ⟨v2, e_, h⟩ := xB_t h
      refine xEvG_call xml xfetch (q := (some (0, v2), M)) rfl (hKeys_opensFor ((x0 + 37) + 1) x4 x1 x3 M _ e_) ?_
      show xEv (51, 40, [some (2, x0), some (0, x1), some (0, x2), some (0, x3), some (0, x4)], [(0, v2)], M) _
      refine xEvG_n xml xfetch 1 (y := (51, if v2 = 0 then 50 else 43, [some (2, x0), some (0, x1), some (0, x2), some (0, x3), some (0, x4)], [], M)) rfl trivial ?_
      refine xEvG_br xml xfetch (fun c_ => ?_) (fun c_ => ?_)
      · have h := xif_t c_ h
        refine xEvG_n xml xfetch 2 (y := (51, 14, [some (2, x0), some (0, x1), some (0, x2), some (0, x3), some (0, (xw32 (x4 + 1)))], [], M)) rfl trivial ?_
        refine xEvG_mask xml xfetch [true, true, true, true, true] ?_
        exact (hD_openDoors_L14 g) x0 x1 x2 x3 (xw32 (x4 + 1)) M _ h
      · have h := xif_f c_ h
        refine xEvG_n xml xfetch 8 (y := (51, 14, [some (2, x0), some (0, x1), some (0, (xor32 x2 (xshl 1 x4))), some (0, x3), some (0, (xw32 (x4 + 1)))], [], M)) rfl trivial ?_
        refine xEvG_mask xml xfetch [true, true, true, true, true] ?_
        exact (hD_openDoors_L14 g) x0 x1 (xor32 x2 (xshl 1 x4)) x3 (xw32 (x4 + 1)) M _ h
    · have h := xif_f c_ h
      refine xEvG_n xml xfetch 1 (y := (51, 57, [some (2, x0), some (0, x1), some (0, x2), some (0, x3), some (0, x4)], [(0, x2)], M)) rfl trivial ?_
      cases h
      exact xEvG_ret xml xfetch rfl
/-- ConsentDoors.openDoors(I)I -/
def fD_openDoors (a0 a1 : Int) (M : xM) : Option Int := xB (fCourse_goneAhead (a0 + 255) a1 M) (fun v1 => fD_openDoors_L14 20001 a0 a1 0 v1 0 M)
theorem hD_openDoors (a0 a1 : Int) (M : xM) (r : Int) (h : fD_openDoors a0 a1 M = some r) : xEv (51, 0, [some (2, a0), some (0, a1), none, none, none], [], M) (some (0, r), M) := by
  unfold fD_openDoors at h
  refine xEvG_n xml xfetch 5 (y := (51, 7, [some (2, a0), some (0, a1), some (0, 0), none, none], [(0, a1), (4, (a0 + 255))], M)) rfl trivial ?_
  obtain ⟨v1, e_, h⟩ := xB_t h
  refine xEvG_call xml xfetch (q := (some (0, v1), M)) rfl (hCourse_goneAhead (a0 + 255) a1 M _ e_) ?_
  show xEv (51, 10, [some (2, a0), some (0, a1), some (0, 0), none, none], [(0, v1)], M) _
  refine xEvG_n xml xfetch 3 (y := (51, 14, [some (2, a0), some (0, a1), some (0, 0), some (0, v1), some (0, 0)], [], M)) rfl trivial ?_
  refine xEvG_mask xml xfetch [true, true, true, true, true] ?_
  exact hD_openDoors_L14 20001 a0 a1 0 v1 0 M _ h

/-- ConsentDoors.doors(I)I -/
def fD_doors (a0 a1 : Int) (M : xM) : Option Int := if (fPrison_hasHour (a0 + 15) a1 M) = 0 then (some (-2)) else (xB (fD_openDoors a0 a1 M) (fun v2 => some v2))
theorem hD_doors (a0 a1 : Int) (M : xM) (r : Int) (h : fD_doors a0 a1 M = some r) : xEv (50, 0, [some (2, a0), some (0, a1)], [], M) (some (0, r), M) := by
  unfold fD_doors at h
  refine xEvG_n xml xfetch 3 (y := (50, 5, [some (2, a0), some (0, a1)], [(0, a1), (8, (a0 + 15))], M)) rfl trivial ?_
  refine xEvG_call xml xfetch (q := (some (0, fPrison_hasHour (a0 + 15) a1 M), M)) rfl (hPrison_hasHour (a0 + 15) a1 M _ rfl) ?_
  show xEv (50, 8, [some (2, a0), some (0, a1)], [(0, (fPrison_hasHour (a0 + 15) a1 M))], M) _
  refine xEvG_n xml xfetch 1 (y := (50, if (fPrison_hasHour (a0 + 15) a1 M) = 0 then 19 else 11, [some (2, a0), some (0, a1)], [], M)) rfl trivial ?_
  refine xEvG_br xml xfetch (fun c_ => ?_) (fun c_ => ?_)
  · have h := xif_t c_ h
    refine xEvG_n xml xfetch 1 (y := (50, 21, [some (2, a0), some (0, a1)], [(0, (-2))], M)) rfl trivial ?_
    cases h
    exact xEvG_ret xml xfetch rfl
  · have h := xif_f c_ h
    refine xEvG_n xml xfetch 2 (y := (50, 13, [some (2, a0), some (0, a1)], [(0, a1), (2, a0)], M)) rfl trivial ?_
    obtain ⟨v2, e_, h⟩ := xB_t h
    refine xEvG_call xml xfetch (q := (some (0, v2), M)) rfl (hD_openDoors a0 a1 M _ e_) ?_
    show xEv (50, 16, [some (2, a0), some (0, a1)], [(0, v2)], M) _
    refine xEvG_n xml xfetch 1 (y := (50, 21, [some (2, a0), some (0, a1)], [(0, v2)], M)) rfl trivial ?_
    cases h
    exact xEvG_ret xml xfetch rfl

def fD_idle_L17 : Nat → Int → Int → Int → xM → Option Int
  | 0, _, _, _, _ => none
  | g + 1, x0, x1, x2, M => if x2 < (M (x0 + 15) 1) then (xA (0 ≤ x2 ∧ x2 < 24) (if (M ((x0 + 255) + 1) x2) = (-1) then (xB (fD_openDoors x0 x2 M) (fun v2 => if v2 = 0 then ((fD_idle_L17 g) x0 x1 (xw32 (x2 + 1)) M) else ((fD_idle_L17 g) x0 (xw32 (x1 + 1)) (xw32 (x2 + 1)) M))) else ((fD_idle_L17 g) x0 x1 (xw32 (x2 + 1)) M))) else (some x1)
theorem hD_idle_L17 : ∀ (g : Nat) (x0 x1 x2 : Int) (M : xM) (r : Int) (h : fD_idle_L17 g x0 x1 x2 M = some r), xEv (52, 17, [some (2, x0), some (0, x1), some (0, x2)], [], M) (some (0, r), M)
  | 0, _, _, _, _, _, h => by cases h
  | g + 1, x0, x1, x2, M, r, h => by
    unfold fD_idle_L17 at h
    refine xEvG_n xml xfetch 5 (y := (52, if x2 < (M (x0 + 15) 1) then 28 else 58, [some (2, x0), some (0, x1), some (0, x2)], [], M)) rfl trivial ?_
    refine xEvG_br xml xfetch (fun c_ => ?_) (fun c_ => ?_)
    · have h := xif_t c_ h
      have a0_ := (xA_t h).1
      have h := (xA_t h).2
      refine xEvG_n xml xfetch 7 (y := (52, if (M ((x0 + 255) + 1) x2) = (-1) then 41 else 52, [some (2, x0), some (0, x1), some (0, x2)], [], M)) rfl ⟨a0_, trivial⟩ ?_
      refine xEvG_br xml xfetch (fun c_ => ?_) (fun c_ => ?_)
      · have h := xif_t c_ h
        refine xEvG_n xml xfetch 2 (y := (52, 43, [some (2, x0), some (0, x1), some (0, x2)], [(0, x2), (2, x0)], M)) rfl trivial ?_
        obtain ⟨v2, e_, h⟩ := xB_t h
        refine xEvG_call xml xfetch (q := (some (0, v2), M)) rfl (hD_openDoors x0 x2 M _ e_) ?_
        show xEv (52, 46, [some (2, x0), some (0, x1), some (0, x2)], [(0, v2)], M) _
        refine xEvG_n xml xfetch 1 (y := (52, if v2 = 0 then 52 else 49, [some (2, x0), some (0, x1), some (0, x2)], [], M)) rfl trivial ?_
        refine xEvG_br xml xfetch (fun c_ => ?_) (fun c_ => ?_)
        · have h := xif_t c_ h
          refine xEvG_n xml xfetch 2 (y := (52, 17, [some (2, x0), some (0, x1), some (0, (xw32 (x2 + 1)))], [], M)) rfl trivial ?_
          refine xEvG_mask xml xfetch [true, true, true] ?_
          exact (hD_idle_L17 g) x0 x1 (xw32 (x2 + 1)) M _ h
        · have h := xif_f c_ h
          refine xEvG_n xml xfetch 3 (y := (52, 17, [some (2, x0), some (0, (xw32 (x1 + 1))), some (0, (xw32 (x2 + 1)))], [], M)) rfl trivial ?_
          refine xEvG_mask xml xfetch [true, true, true] ?_
          exact (hD_idle_L17 g) x0 (xw32 (x1 + 1)) (xw32 (x2 + 1)) M _ h
      · have h := xif_f c_ h
        refine xEvG_n xml xfetch 2 (y := (52, 17, [some (2, x0), some (0, x1), some (0, (xw32 (x2 + 1)))], [], M)) rfl trivial ?_
        refine xEvG_mask xml xfetch [true, true, true] ?_
        exact (hD_idle_L17 g) x0 x1 (xw32 (x2 + 1)) M _ h
    · have h := xif_f c_ h
      refine xEvG_n xml xfetch 1 (y := (52, 59, [some (2, x0), some (0, x1), some (0, x2)], [(0, x1)], M)) rfl trivial ?_
      cases h
      exact xEvG_ret xml xfetch rfl
/-- ConsentDoors.idle()I -/
def fD_idle (a0 : Int) (M : xM) : Option Int := if (fPrison_stands (a0 + 15) M) = 0 then (some (-2)) else (fD_idle_L17 20001 a0 0 0 M)
theorem hD_idle (a0 : Int) (M : xM) (r : Int) (h : fD_idle a0 M = some r) : xEv (52, 0, [some (2, a0), none, none], [], M) (some (0, r), M) := by
  unfold fD_idle at h
  refine xEvG_n xml xfetch 2 (y := (52, 4, [some (2, a0), none, none], [(8, (a0 + 15))], M)) rfl trivial ?_
  refine xEvG_call xml xfetch (q := (some (0, fPrison_stands (a0 + 15) M), M)) rfl (hPrison_stands (a0 + 15) M _ rfl) ?_
  show xEv (52, 7, [some (2, a0), none, none], [(0, (fPrison_stands (a0 + 15) M))], M) _
  refine xEvG_n xml xfetch 1 (y := (52, if (fPrison_stands (a0 + 15) M) = 0 then 10 else 13, [some (2, a0), none, none], [], M)) rfl trivial ?_
  refine xEvG_br xml xfetch (fun c_ => ?_) (fun c_ => ?_)
  · have h := xif_t c_ h
    refine xEvG_n xml xfetch 1 (y := (52, 12, [some (2, a0), none, none], [(0, (-2))], M)) rfl trivial ?_
    cases h
    exact xEvG_ret xml xfetch rfl
  · have h := xif_f c_ h
    refine xEvG_n xml xfetch 4 (y := (52, 17, [some (2, a0), some (0, 0), some (0, 0)], [], M)) rfl trivial ?_
    refine xEvG_mask xml xfetch [true, true, true] ?_
    exact hD_idle_L17 20001 a0 0 0 M _ h

def fD_missedHours_L71 (x0 x1 x2 y0 : Int) (M : xM) : Option Int := xA (0 ≤ (xw32 ((xw32 (2 * x1)) + x2)) ∧ (xw32 ((xw32 (2 * x1)) + x2)) < 18) (some (xand y0 (xxor (M (((x0 + 37) + 1) + 1) (xw32 ((xw32 (2 * x1)) + x2))) (-1))))
theorem hD_missedHours_L71 (x0 x1 x2 y0 : Int) (M : xM) (r : Int) (h : fD_missedHours_L71 x0 x1 x2 y0 M = some r) : xEv (54, 71, [some (2, x0), some (0, x1), some (0, x2), none, none, none, none], [(0, y0)], M) (some (0, r), M) := by
  unfold fD_missedHours_L71 at h
  have a0_ := (xA_t h).1
  have h := (xA_t h).2
  refine xEvG_n xml xfetch 15 (y := (54, 94, [some (2, x0), some (0, x1), some (0, x2), none, none, none, some (0, y0)], [(0, (xand y0 (xxor (M (((x0 + 37) + 1) + 1) (xw32 ((xw32 (2 * x1)) + x2))) (-1))))], M)) rfl ⟨a0_, trivial⟩ ?_
  cases h
  exact xEvG_ret xml xfetch rfl
/-- ConsentDoors.missedHours(II)I -/
def fD_missedHours (a0 a1 a2 : Int) (M : xM) : Option Int := if (fPrison_neighbour (a0 + 15) a1 a2 M) = (-1) then (some 0) else (if (fPrison_neighbour (a0 + 15) (fPrison_neighbour (a0 + 15) a1 a2 M) a2 M) = (-1) then (fD_missedHours_L71 a0 a1 a2 (xw32 ((xshl 1 (M (a0 + 15) 1)) - 1)) M) else (xA (0 ≤ (xw32 ((xw32 ((xw32 (2 * (fPrison_neighbour (a0 + 15) (fPrison_neighbour (a0 + 15) a1 a2 M) a2 M))) + 1)) - a2)) ∧ (xw32 ((xw32 ((xw32 (2 * (fPrison_neighbour (a0 + 15) (fPrison_neighbour (a0 + 15) a1 a2 M) a2 M))) + 1)) - a2)) < 18) (fD_missedHours_L71 a0 a1 a2 (M (((a0 + 37) + 1) + 1) (xw32 ((xw32 ((xw32 (2 * (fPrison_neighbour (a0 + 15) (fPrison_neighbour (a0 + 15) a1 a2 M) a2 M))) + 1)) - a2))) M)))
theorem hD_missedHours (a0 a1 a2 : Int) (M : xM) (r : Int) (h : fD_missedHours a0 a1 a2 M = some r) : xEv (54, 0, [some (2, a0), some (0, a1), some (0, a2), none, none, none, none], [], M) (some (0, r), M) := by
  unfold fD_missedHours at h
  refine xEvG_n xml xfetch 4 (y := (54, 6, [some (2, a0), some (0, a1), some (0, a2), none, none, none, none], [(0, a2), (0, a1), (8, (a0 + 15))], M)) rfl trivial ?_
  refine xEvG_call xml xfetch (q := (some (0, fPrison_neighbour (a0 + 15) a1 a2 M), M)) rfl (hPrison_neighbour (a0 + 15) a1 a2 M _ rfl) ?_
  show xEv (54, 9, [some (2, a0), some (0, a1), some (0, a2), none, none, none, none], [(0, (fPrison_neighbour (a0 + 15) a1 a2 M))], M) _
  refine xEvG_n xml xfetch 4 (y := (54, if (fPrison_neighbour (a0 + 15) a1 a2 M) = (-1) then 15 else 17, [some (2, a0), some (0, a1), some (0, a2), some (0, (fPrison_neighbour (a0 + 15) a1 a2 M)), none, none, none], [], M)) rfl trivial ?_
  refine xEvG_br xml xfetch (fun c_ => ?_) (fun c_ => ?_)
  · have h := xif_t c_ h
    refine xEvG_n xml xfetch 1 (y := (54, 16, [some (2, a0), some (0, a1), some (0, a2), some (0, (fPrison_neighbour (a0 + 15) a1 a2 M)), none, none, none], [(0, 0)], M)) rfl trivial ?_
    cases h
    exact xEvG_ret xml xfetch rfl
  · have h := xif_f c_ h
    refine xEvG_n xml xfetch 12 (y := (54, 36, [some (2, a0), some (0, a1), some (0, a2), some (0, (fPrison_neighbour (a0 + 15) a1 a2 M)), some (0, (xw32 ((xshl 1 (M (a0 + 15) 1)) - 1))), none, none], [(0, a2), (0, (fPrison_neighbour (a0 + 15) a1 a2 M)), (8, (a0 + 15))], M)) rfl trivial ?_
    refine xEvG_call xml xfetch (q := (some (0, fPrison_neighbour (a0 + 15) (fPrison_neighbour (a0 + 15) a1 a2 M) a2 M), M)) rfl (hPrison_neighbour (a0 + 15) (fPrison_neighbour (a0 + 15) a1 a2 M) a2 M _ rfl) ?_
    show xEv (54, 39, [some (2, a0), some (0, a1), some (0, a2), some (0, (fPrison_neighbour (a0 + 15) a1 a2 M)), some (0, (xw32 ((xshl 1 (M (a0 + 15) 1)) - 1))), none, none], [(0, (fPrison_neighbour (a0 + 15) (fPrison_neighbour (a0 + 15) a1 a2 M) a2 M))], M) _
    refine xEvG_n xml xfetch 4 (y := (54, if (fPrison_neighbour (a0 + 15) (fPrison_neighbour (a0 + 15) a1 a2 M) a2 M) = (-1) then 47 else 52, [some (2, a0), some (0, a1), some (0, a2), some (0, (fPrison_neighbour (a0 + 15) a1 a2 M)), some (0, (xw32 ((xshl 1 (M (a0 + 15) 1)) - 1))), some (0, (fPrison_neighbour (a0 + 15) (fPrison_neighbour (a0 + 15) a1 a2 M) a2 M)), none], [], M)) rfl trivial ?_
    refine xEvG_br xml xfetch (fun c_ => ?_) (fun c_ => ?_)
    · have h := xif_t c_ h
      refine xEvG_n xml xfetch 2 (y := (54, 71, [some (2, a0), some (0, a1), some (0, a2), some (0, (fPrison_neighbour (a0 + 15) a1 a2 M)), some (0, (xw32 ((xshl 1 (M (a0 + 15) 1)) - 1))), some (0, (fPrison_neighbour (a0 + 15) (fPrison_neighbour (a0 + 15) a1 a2 M) a2 M)), none], [(0, (xw32 ((xshl 1 (M (a0 + 15) 1)) - 1)))], M)) rfl trivial ?_
      refine xEvG_mask xml xfetch [true, true, true, false, false, false, false] ?_
      exact hD_missedHours_L71 a0 a1 a2 (xw32 ((xshl 1 (M (a0 + 15) 1)) - 1)) M _ h
    · have h := xif_f c_ h
      have a0_ := (xA_t h).1
      have h := (xA_t h).2
      refine xEvG_n xml xfetch 12 (y := (54, 71, [some (2, a0), some (0, a1), some (0, a2), some (0, (fPrison_neighbour (a0 + 15) a1 a2 M)), some (0, (xw32 ((xshl 1 (M (a0 + 15) 1)) - 1))), some (0, (fPrison_neighbour (a0 + 15) (fPrison_neighbour (a0 + 15) a1 a2 M) a2 M)), none], [(0, (M (((a0 + 37) + 1) + 1) (xw32 ((xw32 ((xw32 (2 * (fPrison_neighbour (a0 + 15) (fPrison_neighbour (a0 + 15) a1 a2 M) a2 M))) + 1)) - a2))))], M)) rfl ⟨a0_, trivial⟩ ?_
      refine xEvG_mask xml xfetch [true, true, true, false, false, false, false] ?_
      exact hD_missedHours_L71 a0 a1 a2 (M (((a0 + 37) + 1) + 1) (xw32 ((xw32 ((xw32 (2 * (fPrison_neighbour (a0 + 15) (fPrison_neighbour (a0 + 15) a1 a2 M) a2 M))) + 1)) - a2))) M _ h

/-- ConsentDoors.wanted(I)I -/
def fD_wanted (a0 a1 : Int) (M : xM) : Option Int := if (fPrison_hasCell (a0 + 15) a1 M) = 0 then (some (-2)) else (xB (fD_missedHours a0 a1 0 M) (fun v2 => xB (fD_missedHours a0 a1 1 M) (fun v4 => some (xw32 ((fJI_bitCount v2 M) + (fJI_bitCount v4 M))))))
theorem hD_wanted (a0 a1 : Int) (M : xM) (r : Int) (h : fD_wanted a0 a1 M = some r) : xEv (53, 0, [some (2, a0), some (0, a1)], [], M) (some (0, r), M) := by
  unfold fD_wanted at h
  refine xEvG_n xml xfetch 3 (y := (53, 5, [some (2, a0), some (0, a1)], [(0, a1), (8, (a0 + 15))], M)) rfl trivial ?_
  refine xEvG_call xml xfetch (q := (some (0, fPrison_hasCell (a0 + 15) a1 M), M)) rfl (hPrison_hasCell (a0 + 15) a1 M _ rfl) ?_
  show xEv (53, 8, [some (2, a0), some (0, a1)], [(0, (fPrison_hasCell (a0 + 15) a1 M))], M) _
  refine xEvG_n xml xfetch 1 (y := (53, if (fPrison_hasCell (a0 + 15) a1 M) = 0 then 11 else 14, [some (2, a0), some (0, a1)], [], M)) rfl trivial ?_
  refine xEvG_br xml xfetch (fun c_ => ?_) (fun c_ => ?_)
  · have h := xif_t c_ h
    refine xEvG_n xml xfetch 1 (y := (53, 13, [some (2, a0), some (0, a1)], [(0, (-2))], M)) rfl trivial ?_
    cases h
    exact xEvG_ret xml xfetch rfl
  · have h := xif_f c_ h
    refine xEvG_n xml xfetch 3 (y := (53, 17, [some (2, a0), some (0, a1)], [(0, 0), (0, a1), (2, a0)], M)) rfl trivial ?_
    obtain ⟨v2, e_, h⟩ := xB_t h
    refine xEvG_call xml xfetch (q := (some (0, v2), M)) rfl (hD_missedHours a0 a1 0 M _ e_) ?_
    show xEv (53, 20, [some (2, a0), some (0, a1)], [(0, v2)], M) _
    refine xEvG_call xml xfetch (q := (some (0, fJI_bitCount v2 M), M)) rfl (hJI_bitCount v2 M _ rfl) ?_
    show xEv (53, 23, [some (2, a0), some (0, a1)], [(0, (fJI_bitCount v2 M))], M) _
    refine xEvG_n xml xfetch 3 (y := (53, 26, [some (2, a0), some (0, a1)], [(0, 1), (0, a1), (2, a0), (0, (fJI_bitCount v2 M))], M)) rfl trivial ?_
    obtain ⟨v4, e_, h⟩ := xB_t h
    refine xEvG_call xml xfetch (q := (some (0, v4), M)) rfl (hD_missedHours a0 a1 1 M _ e_) ?_
    show xEv (53, 29, [some (2, a0), some (0, a1)], [(0, v4), (0, (fJI_bitCount v2 M))], M) _
    refine xEvG_call xml xfetch (q := (some (0, fJI_bitCount v4 M), M)) rfl (hJI_bitCount v4 M _ rfl) ?_
    show xEv (53, 32, [some (2, a0), some (0, a1)], [(0, (fJI_bitCount v4 M)), (0, (fJI_bitCount v2 M))], M) _
    refine xEvG_n xml xfetch 1 (y := (53, 33, [some (2, a0), some (0, a1)], [(0, (xw32 ((fJI_bitCount v2 M) + (fJI_bitCount v4 M))))], M)) rfl trivial ?_
    cases h
    exact xEvG_ret xml xfetch rfl

def fD_howManyHave_L5 : Nat → Int → Int → Int → Int → Int → xM → Option Int
  | 0, _, _, _, _, _, _ => none
  | g + 1, x0, x1, x2, x3, x4, M => if x4 < (M (x0 + 15) 0) then (xA (0 ≤ x4 ∧ x4 < 9) ((fD_howManyHave_L5 g) x0 x1 x2 (xw32 (x3 + (fD_bit (M x1 x4) x2 M))) (xw32 (x4 + 1)) M)) else (some x3)
theorem hD_howManyHave_L5 : ∀ (g : Nat) (x0 x1 x2 x3 x4 : Int) (M : xM) (r : Int) (h : fD_howManyHave_L5 g x0 x1 x2 x3 x4 M = some r), xEv (56, 5, [some (2, x0), some (23, x1), some (0, x2), some (0, x3), some (0, x4)], [], M) (some (0, r), M)
  | 0, _, _, _, _, _, _, _, h => by cases h
  | g + 1, x0, x1, x2, x3, x4, M, r, h => by
    unfold fD_howManyHave_L5 at h
    refine xEvG_n xml xfetch 5 (y := (56, if x4 < (M (x0 + 15) 0) then 17 else 34, [some (2, x0), some (23, x1), some (0, x2), some (0, x3), some (0, x4)], [], M)) rfl trivial ?_
    refine xEvG_br xml xfetch (fun c_ => ?_) (fun c_ => ?_)
    · have h := xif_t c_ h
      have a0_ := (xA_t h).1
      have h := (xA_t h).2
      refine xEvG_n xml xfetch 5 (y := (56, 23, [some (2, x0), some (23, x1), some (0, x2), some (0, x3), some (0, x4)], [(0, x2), (0, (M x1 x4)), (0, x3)], M)) rfl ⟨a0_, trivial⟩ ?_
      refine xEvG_call xml xfetch (q := (some (0, fD_bit (M x1 x4) x2 M), M)) rfl (hD_bit (M x1 x4) x2 M _ rfl) ?_
      show xEv (56, 26, [some (2, x0), some (23, x1), some (0, x2), some (0, x3), some (0, x4)], [(0, (fD_bit (M x1 x4) x2 M)), (0, x3)], M) _
      refine xEvG_n xml xfetch 4 (y := (56, 5, [some (2, x0), some (23, x1), some (0, x2), some (0, (xw32 (x3 + (fD_bit (M x1 x4) x2 M)))), some (0, (xw32 (x4 + 1)))], [], M)) rfl trivial ?_
      refine xEvG_mask xml xfetch [true, true, true, true, true] ?_
      exact (hD_howManyHave_L5 g) x0 x1 x2 (xw32 (x3 + (fD_bit (M x1 x4) x2 M))) (xw32 (x4 + 1)) M _ h
    · have h := xif_f c_ h
      refine xEvG_n xml xfetch 1 (y := (56, 35, [some (2, x0), some (23, x1), some (0, x2), some (0, x3), some (0, x4)], [(0, x3)], M)) rfl trivial ?_
      cases h
      exact xEvG_ret xml xfetch rfl
/-- ConsentDoors.howManyHave([II)I -/
def fD_howManyHave (a0 a1 a2 : Int) (M : xM) : Option Int := fD_howManyHave_L5 20001 a0 a1 a2 0 0 M
theorem hD_howManyHave (a0 a1 a2 : Int) (M : xM) (r : Int) (h : fD_howManyHave a0 a1 a2 M = some r) : xEv (56, 0, [some (2, a0), some (23, a1), some (0, a2), none, none], [], M) (some (0, r), M) := by
  unfold fD_howManyHave at h
  refine xEvG_n xml xfetch 4 (y := (56, 5, [some (2, a0), some (23, a1), some (0, a2), some (0, 0), some (0, 0)], [], M)) rfl trivial ?_
  refine xEvG_mask xml xfetch [true, true, true, true, true] ?_
  exact hD_howManyHave_L5 20001 a0 a1 a2 0 0 M _ h

def fD_busy_L29 : Nat → Int → Int → Int → Int → Int → xM → Option Int
  | 0, _, _, _, _, _, _ => none
  | g + 1, x0, x1, x2, x3, x4, M => if x4 < (M (x0 + 15) 1) then (xB (fD_howManyHave x0 (((x0 + 37) + 1) + 2) x4 M) (fun v2 => if x2 < v2 then ((fD_busy_L29 g) x0 x1 v2 x4 (xw32 (x4 + 1)) M) else ((fD_busy_L29 g) x0 x1 x2 x3 (xw32 (x4 + 1)) M))) else (some (if x1 = 0 then x3 else x2 : Int))
theorem hD_busy_L29 : ∀ (g : Nat) (x0 x1 x2 x3 x4 : Int) (M : xM) (r : Int) (h : fD_busy_L29 g x0 x1 x2 x3 x4 M = some r), xEv (55, 29, [some (2, x0), some (0, x1), some (0, x2), some (0, x3), some (0, x4), none], [], M) (some (0, r), M)
  | 0, _, _, _, _, _, _, _, h => by cases h
  | g + 1, x0, x1, x2, x3, x4, M, r, h => by
    unfold fD_busy_L29 at h
    refine xEvG_n xml xfetch 5 (y := (55, if x4 < (M (x0 + 15) 1) then 41 else 77, [some (2, x0), some (0, x1), some (0, x2), some (0, x3), some (0, x4), none], [], M)) rfl trivial ?_
    refine xEvG_br xml xfetch (fun c_ => ?_) (fun c_ => ?_)
    · have h := xif_t c_ h
      refine xEvG_n xml xfetch 6 (y := (55, 54, [some (2, x0), some (0, x1), some (0, x2), some (0, x3), some (0, x4), none], [(0, x4), (23, (((x0 + 37) + 1) + 2)), (2, x0)], M)) rfl trivial ?_
      obtain ⟨v2, e_, h⟩ := xB_t h
      refine xEvG_call xml xfetch (q := (some (0, v2), M)) rfl (hD_howManyHave x0 (((x0 + 37) + 1) + 2) x4 M _ e_) ?_
      show xEv (55, 57, [some (2, x0), some (0, x1), some (0, x2), some (0, x3), some (0, x4), none], [(0, v2)], M) _
      refine xEvG_n xml xfetch 4 (y := (55, if x2 < v2 then 65 else 71, [some (2, x0), some (0, x1), some (0, x2), some (0, x3), some (0, x4), some (0, v2)], [], M)) rfl trivial ?_
      refine xEvG_br xml xfetch (fun c_ => ?_) (fun c_ => ?_)
      · have h := xif_t c_ h
        refine xEvG_n xml xfetch 6 (y := (55, 29, [some (2, x0), some (0, x1), some (0, v2), some (0, x4), some (0, (xw32 (x4 + 1))), some (0, v2)], [], M)) rfl trivial ?_
        refine xEvG_mask xml xfetch [true, true, true, true, true, false] ?_
        exact (hD_busy_L29 g) x0 x1 v2 x4 (xw32 (x4 + 1)) M _ h
      · have h := xif_f c_ h
        refine xEvG_n xml xfetch 2 (y := (55, 29, [some (2, x0), some (0, x1), some (0, x2), some (0, x3), some (0, (xw32 (x4 + 1))), some (0, v2)], [], M)) rfl trivial ?_
        refine xEvG_mask xml xfetch [true, true, true, true, true, false] ?_
        exact (hD_busy_L29 g) x0 x1 x2 x3 (xw32 (x4 + 1)) M _ h
    · have h := xif_f c_ h
      refine xEvG_n xml xfetch 1 (y := (55, 78, [some (2, x0), some (0, x1), some (0, x2), some (0, x3), some (0, x4), none], [(0, x1)], M)) rfl trivial ?_
      have key_ : xEv (55, 86, [some (2, x0), some (0, x1), some (0, x2), some (0, x3), some (0, x4), none], [(0, (if x1 = 0 then x3 else x2 : Int))], M) (some (0, r), M) := by
        cases h
        exact xEvG_ret xml xfetch rfl
      refine xEvG_n xml xfetch 1 (y := (55, if x1 = 0 then 81 else 85, [some (2, x0), some (0, x1), some (0, x2), some (0, x3), some (0, x4), none], [], M)) rfl trivial ?_
      refine xEvG_br xml xfetch (fun c6_ => ?_) (fun c6_ => ?_)
      · refine xEvG_n xml xfetch 2 (y := (55, 86, [some (2, x0), some (0, x1), some (0, x2), some (0, x3), some (0, x4), none], [(0, x3)], M)) rfl trivial ?_
        try simp only [if_pos c6_] at key_
        try simp only [if_pos c6_]
        exact key_
      · refine xEvG_n xml xfetch 1 (y := (55, 86, [some (2, x0), some (0, x1), some (0, x2), some (0, x3), some (0, x4), none], [(0, x2)], M)) rfl trivial ?_
        try simp only [if_neg c6_] at key_
        try simp only [if_neg c6_]
        exact key_
/-- ConsentDoors.busy(I)I -/
def fD_busy (a0 a1 : Int) (M : xM) : Option Int := if (fPrison_stands (a0 + 15) M) = 0 then (some (-2)) else (if a1 < 0 then (some (-2)) else (if 1 < a1 then (some (-2)) else (fD_busy_L29 20001 a0 a1 0 0 0 M)))
theorem hD_busy (a0 a1 : Int) (M : xM) (r : Int) (h : fD_busy a0 a1 M = some r) : xEv (55, 0, [some (2, a0), some (0, a1), none, none, none, none], [], M) (some (0, r), M) := by
  unfold fD_busy at h
  refine xEvG_n xml xfetch 2 (y := (55, 4, [some (2, a0), some (0, a1), none, none, none, none], [(8, (a0 + 15))], M)) rfl trivial ?_
  refine xEvG_call xml xfetch (q := (some (0, fPrison_stands (a0 + 15) M), M)) rfl (hPrison_stands (a0 + 15) M _ rfl) ?_
  show xEv (55, 7, [some (2, a0), some (0, a1), none, none, none, none], [(0, (fPrison_stands (a0 + 15) M))], M) _
  refine xEvG_n xml xfetch 1 (y := (55, if (fPrison_stands (a0 + 15) M) = 0 then 19 else 10, [some (2, a0), some (0, a1), none, none, none, none], [], M)) rfl trivial ?_
  refine xEvG_br xml xfetch (fun c_ => ?_) (fun c_ => ?_)
  · have h := xif_t c_ h
    refine xEvG_n xml xfetch 1 (y := (55, 21, [some (2, a0), some (0, a1), none, none, none, none], [(0, (-2))], M)) rfl trivial ?_
    cases h
    exact xEvG_ret xml xfetch rfl
  · have h := xif_f c_ h
    refine xEvG_n xml xfetch 2 (y := (55, if a1 < 0 then 19 else 14, [some (2, a0), some (0, a1), none, none, none, none], [], M)) rfl trivial ?_
    refine xEvG_br xml xfetch (fun c_ => ?_) (fun c_ => ?_)
    · have h := xif_t c_ h
      refine xEvG_n xml xfetch 1 (y := (55, 21, [some (2, a0), some (0, a1), none, none, none, none], [(0, (-2))], M)) rfl trivial ?_
      cases h
      exact xEvG_ret xml xfetch rfl
    · have h := xif_f c_ h
      refine xEvG_n xml xfetch 3 (y := (55, if 1 < a1 then 19 else 22, [some (2, a0), some (0, a1), none, none, none, none], [], M)) rfl trivial ?_
      refine xEvG_br xml xfetch (fun c_ => ?_) (fun c_ => ?_)
      · have h := xif_t c_ h
        refine xEvG_n xml xfetch 1 (y := (55, 21, [some (2, a0), some (0, a1), none, none, none, none], [(0, (-2))], M)) rfl trivial ?_
        cases h
        exact xEvG_ret xml xfetch rfl
      · have h := xif_f c_ h
        refine xEvG_n xml xfetch 6 (y := (55, 29, [some (2, a0), some (0, a1), some (0, 0), some (0, 0), some (0, 0), none], [], M)) rfl trivial ?_
        refine xEvG_mask xml xfetch [true, true, true, true, true, false] ?_
        exact hD_busy_L29 20001 a0 a1 0 0 0 M _ h

/-- ConsentDoors.isSlot(I)Z -/
def fD_isSlot (a0 : Int) (M : xM) : Int := (if a0 < 0 then 0 else (if a0 < 4 then 1 else 0 : Int) : Int)
theorem hD_isSlot (a0 : Int) (M : xM) (r : Int) (h : fD_isSlot a0 M = r) : xEv (84, 0, [some (0, a0)], [], M) (some (0, r), M) := by
  unfold fD_isSlot at h
  refine xEvG_n xml xfetch 1 (y := (84, 1, [some (0, a0)], [(0, a0)], M)) rfl trivial ?_
  have key_ : xEv (84, 14, [some (0, a0)], [(0, (if a0 < 0 then 0 else (if a0 < 4 then 1 else 0 : Int) : Int))], M) (some (0, r), M) := by
    subst h
    exact xEvG_retc xml xfetch rfl (by (repeat' split) <;> first | exact Or.inl rfl | exact Or.inr rfl)
  refine xEvG_n xml xfetch 1 (y := (84, if a0 < 0 then 13 else 4, [some (0, a0)], [], M)) rfl trivial ?_
  refine xEvG_br xml xfetch (fun c2_ => ?_) (fun c2_ => ?_)
  · refine xEvG_n xml xfetch 1 (y := (84, 14, [some (0, a0)], [(0, 0)], M)) rfl trivial ?_
    try simp only [if_pos c2_] at key_
    try simp only [if_pos c2_]
    exact key_
  · refine xEvG_n xml xfetch 3 (y := (84, if a0 < 4 then 9 else 13, [some (0, a0)], [], M)) rfl trivial ?_
    refine xEvG_br xml xfetch (fun c4_ => ?_) (fun c4_ => ?_)
    · refine xEvG_n xml xfetch 2 (y := (84, 14, [some (0, a0)], [(0, 1)], M)) rfl trivial ?_
      try simp only [if_neg c2_, if_pos c4_] at key_
      try simp only [if_neg c2_, if_pos c4_]
      exact key_
    · refine xEvG_n xml xfetch 1 (y := (84, 14, [some (0, a0)], [(0, 0)], M)) rfl trivial ?_
      try simp only [if_neg c2_, if_neg c4_] at key_
      try simp only [if_neg c2_, if_neg c4_]
      exact key_
theorem bD_isSlot (a0 : Int) (M : xM) : fD_isSlot a0 M = 0 ∨ fD_isSlot a0 M = 1 := by
  unfold fD_isSlot
  (repeat' split) <;> first | exact Or.inl rfl | exact Or.inr rfl | exact bD_isPoints _ _ | exact bD_isSide _ _ | exact bPrison_hasCell _ _ _ | exact bPrison_hasHour _ _ _ | exact bPrison_stands _ _

/-- ConsentDoors$Slot.isBelow(JI)Z -/
def fSlot_isBelow (a0 a1 : Int) (M : xM) : Int := (if (xcmpL a0 0) < 0 then 0 else (if (xcmpL a0 a1) < 0 then 1 else 0 : Int) : Int)
theorem hSlot_isBelow (a0 a1 : Int) (M : xM) (r : Int) (h : fSlot_isBelow a0 a1 M = r) : xEv (294, 0, [some (1, a0), none, some (0, a1)], [], M) (some (0, r), M) := by
  unfold fSlot_isBelow at h
  refine xEvG_n xml xfetch 3 (y := (294, 3, [some (1, a0), none, some (0, a1)], [(0, (xcmpL a0 0))], M)) rfl trivial ?_
  have key_ : xEv (294, 18, [some (1, a0), none, some (0, a1)], [(0, (if (xcmpL a0 0) < 0 then 0 else (if (xcmpL a0 a1) < 0 then 1 else 0 : Int) : Int))], M) (some (0, r), M) := by
    subst h
    exact xEvG_retc xml xfetch rfl (by (repeat' split) <;> first | exact Or.inl rfl | exact Or.inr rfl)
  refine xEvG_n xml xfetch 1 (y := (294, if (xcmpL a0 0) < 0 then 17 else 6, [some (1, a0), none, some (0, a1)], [], M)) rfl trivial ?_
  refine xEvG_br xml xfetch (fun c2_ => ?_) (fun c2_ => ?_)
  · refine xEvG_n xml xfetch 1 (y := (294, 18, [some (1, a0), none, some (0, a1)], [(0, 0)], M)) rfl trivial ?_
    try simp only [if_pos c2_] at key_
    try simp only [if_pos c2_]
    exact key_
  · refine xEvG_n xml xfetch 5 (y := (294, if (xcmpL a0 a1) < 0 then 13 else 17, [some (1, a0), none, some (0, a1)], [], M)) rfl trivial ?_
    refine xEvG_br xml xfetch (fun c4_ => ?_) (fun c4_ => ?_)
    · refine xEvG_n xml xfetch 2 (y := (294, 18, [some (1, a0), none, some (0, a1)], [(0, 1)], M)) rfl trivial ?_
      try simp only [if_neg c2_, if_pos c4_] at key_
      try simp only [if_neg c2_, if_pos c4_]
      exact key_
    · refine xEvG_n xml xfetch 1 (y := (294, 18, [some (1, a0), none, some (0, a1)], [(0, 0)], M)) rfl trivial ?_
      try simp only [if_neg c2_, if_neg c4_] at key_
      try simp only [if_neg c2_, if_neg c4_]
      exact key_
theorem bSlot_isBelow (a0 a1 : Int) (M : xM) : fSlot_isBelow a0 a1 M = 0 ∨ fSlot_isBelow a0 a1 M = 1 := by
  unfold fSlot_isBelow
  (repeat' split) <;> first | exact Or.inl rfl | exact Or.inr rfl | exact bD_isPoints _ _ | exact bD_isSide _ _ | exact bD_isSlot _ _ | exact bPrison_hasCell _ _ _ | exact bPrison_hasHour _ _ _ | exact bPrison_stands _ _

def fSlot_tells_L13 : Nat → Int → Int → Int → Int → xM → Option Int
  | 0, _, _, _, _, _ => none
  | g + 1, x0, x1, x2, x3, M => if (xw32 (x3 + 2)) < (M x0 2) then (xA (0 ≤ x3 ∧ x3 < 60) (if (fSlot_isBelow (M (x0 + 1) x3) x1 M) = 0 then (some 0) else (xA (0 ≤ (xw32 (x3 + 1)) ∧ (xw32 (x3 + 1)) < 60) (if (fSlot_isBelow (M (x0 + 1) (xw32 (x3 + 1))) x2 M) = 0 then (some 0) else (xA (0 ≤ (xw32 (x3 + 2)) ∧ (xw32 (x3 + 2)) < 60) (if (fSlot_isBelow (M (x0 + 1) (xw32 (x3 + 2))) 2 M) = 0 then (some 0) else ((fSlot_tells_L13 g) x0 x1 x2 (xw32 (x3 + 3)) M))))))) else (some 1)
theorem hSlot_tells_L13 : ∀ (g : Nat) (x0 x1 x2 x3 : Int) (M : xM) (r : Int) (h : fSlot_tells_L13 g x0 x1 x2 x3 M = some r), xEv (292, 13, [some (11, x0), some (0, x1), some (0, x2), some (0, x3)], [], M) (some (0, r), M)
  | 0, _, _, _, _, _, _, h => by cases h
  | g + 1, x0, x1, x2, x3, M, r, h => by
    unfold fSlot_tells_L13 at h
    refine xEvG_n xml xfetch 6 (y := (292, if (xw32 (x3 + 2)) < (M x0 2) then 23 else 74, [some (11, x0), some (0, x1), some (0, x2), some (0, x3)], [], M)) rfl trivial ?_
    refine xEvG_br xml xfetch (fun c_ => ?_) (fun c_ => ?_)
    · have h := xif_t c_ h
      have a0_ := (xA_t h).1
      have h := (xA_t h).2
      refine xEvG_n xml xfetch 5 (y := (292, 30, [some (11, x0), some (0, x1), some (0, x2), some (0, x3)], [(0, x1), (1, (M (x0 + 1) x3))], M)) rfl ⟨a0_, trivial⟩ ?_
      refine xEvG_call xml xfetch (q := (some (0, fSlot_isBelow (M (x0 + 1) x3) x1 M), M)) rfl (hSlot_isBelow (M (x0 + 1) x3) x1 M _ rfl) ?_
      show xEv (292, 33, [some (11, x0), some (0, x1), some (0, x2), some (0, x3)], [(0, (fSlot_isBelow (M (x0 + 1) x3) x1 M))], M) _
      refine xEvG_n xml xfetch 1 (y := (292, if (fSlot_isBelow (M (x0 + 1) x3) x1 M) = 0 then 66 else 36, [some (11, x0), some (0, x1), some (0, x2), some (0, x3)], [], M)) rfl trivial ?_
      refine xEvG_br xml xfetch (fun c_ => ?_) (fun c_ => ?_)
      · have h := xif_t c_ h
        refine xEvG_n xml xfetch 1 (y := (292, 67, [some (11, x0), some (0, x1), some (0, x2), some (0, x3)], [(0, 0)], M)) rfl trivial ?_
        cases h
        exact xEvG_retc xml xfetch rfl (Or.inl rfl)
      · have h := xif_f c_ h
        have a0_ := (xA_t h).1
        have h := (xA_t h).2
        refine xEvG_n xml xfetch 7 (y := (292, 45, [some (11, x0), some (0, x1), some (0, x2), some (0, x3)], [(0, x2), (1, (M (x0 + 1) (xw32 (x3 + 1))))], M)) rfl ⟨a0_, trivial⟩ ?_
        refine xEvG_call xml xfetch (q := (some (0, fSlot_isBelow (M (x0 + 1) (xw32 (x3 + 1))) x2 M), M)) rfl (hSlot_isBelow (M (x0 + 1) (xw32 (x3 + 1))) x2 M _ rfl) ?_
        show xEv (292, 48, [some (11, x0), some (0, x1), some (0, x2), some (0, x3)], [(0, (fSlot_isBelow (M (x0 + 1) (xw32 (x3 + 1))) x2 M))], M) _
        refine xEvG_n xml xfetch 1 (y := (292, if (fSlot_isBelow (M (x0 + 1) (xw32 (x3 + 1))) x2 M) = 0 then 66 else 51, [some (11, x0), some (0, x1), some (0, x2), some (0, x3)], [], M)) rfl trivial ?_
        refine xEvG_br xml xfetch (fun c_ => ?_) (fun c_ => ?_)
        · have h := xif_t c_ h
          refine xEvG_n xml xfetch 1 (y := (292, 67, [some (11, x0), some (0, x1), some (0, x2), some (0, x3)], [(0, 0)], M)) rfl trivial ?_
          cases h
          exact xEvG_retc xml xfetch rfl (Or.inl rfl)
        · have h := xif_f c_ h
          have a0_ := (xA_t h).1
          have h := (xA_t h).2
          refine xEvG_n xml xfetch 7 (y := (292, 60, [some (11, x0), some (0, x1), some (0, x2), some (0, x3)], [(0, 2), (1, (M (x0 + 1) (xw32 (x3 + 2))))], M)) rfl ⟨a0_, trivial⟩ ?_
          refine xEvG_call xml xfetch (q := (some (0, fSlot_isBelow (M (x0 + 1) (xw32 (x3 + 2))) 2 M), M)) rfl (hSlot_isBelow (M (x0 + 1) (xw32 (x3 + 2))) 2 M _ rfl) ?_
          show xEv (292, 63, [some (11, x0), some (0, x1), some (0, x2), some (0, x3)], [(0, (fSlot_isBelow (M (x0 + 1) (xw32 (x3 + 2))) 2 M))], M) _
          refine xEvG_n xml xfetch 1 (y := (292, if (fSlot_isBelow (M (x0 + 1) (xw32 (x3 + 2))) 2 M) = 0 then 66 else 68, [some (11, x0), some (0, x1), some (0, x2), some (0, x3)], [], M)) rfl trivial ?_
          refine xEvG_br xml xfetch (fun c_ => ?_) (fun c_ => ?_)
          · have h := xif_t c_ h
            refine xEvG_n xml xfetch 1 (y := (292, 67, [some (11, x0), some (0, x1), some (0, x2), some (0, x3)], [(0, 0)], M)) rfl trivial ?_
            cases h
            exact xEvG_retc xml xfetch rfl (Or.inl rfl)
          · have h := xif_f c_ h
            refine xEvG_n xml xfetch 2 (y := (292, 13, [some (11, x0), some (0, x1), some (0, x2), some (0, (xw32 (x3 + 3)))], [], M)) rfl trivial ?_
            refine xEvG_mask xml xfetch [true, true, true, true] ?_
            exact (hSlot_tells_L13 g) x0 x1 x2 (xw32 (x3 + 3)) M _ h
    · have h := xif_f c_ h
      refine xEvG_n xml xfetch 1 (y := (292, 75, [some (11, x0), some (0, x1), some (0, x2), some (0, x3)], [(0, 1)], M)) rfl trivial ?_
      cases h
      exact xEvG_retc xml xfetch rfl (Or.inr rfl)
/-- ConsentDoors$Slot.tells(II)Z -/
def fSlot_tells (a0 a1 a2 : Int) (M : xM) : Option Int := if (xrem (M a0 2) 3) = 0 then (fSlot_tells_L13 20001 a0 a1 a2 0 M) else (some 0)
theorem hSlot_tells (a0 a1 a2 : Int) (M : xM) (r : Int) (h : fSlot_tells a0 a1 a2 M = some r) : xEv (292, 0, [some (11, a0), some (0, a1), some (0, a2), none], [], M) (some (0, r), M) := by
  unfold fSlot_tells at h
  refine xEvG_n xml xfetch 5 (y := (292, if (xrem (M a0 2) 3) = 0 then 11 else 9, [some (11, a0), some (0, a1), some (0, a2), none], [], M)) rfl ⟨by decide, trivial⟩ ?_
  refine xEvG_br xml xfetch (fun c_ => ?_) (fun c_ => ?_)
  · have h := xif_t c_ h
    refine xEvG_n xml xfetch 2 (y := (292, 13, [some (11, a0), some (0, a1), some (0, a2), some (0, 0)], [], M)) rfl trivial ?_
    refine xEvG_mask xml xfetch [true, true, true, true] ?_
    exact hSlot_tells_L13 20001 a0 a1 a2 0 M _ h
  · have h := xif_f c_ h
    refine xEvG_n xml xfetch 1 (y := (292, 10, [some (11, a0), some (0, a1), some (0, a2), none], [(0, 0)], M)) rfl trivial ?_
    cases h
    exact xEvG_retc xml xfetch rfl (Or.inl rfl)

def fSlot_rises_L2 : Nat → Int → Int → xM → Option Int
  | 0, _, _, _ => none
  | g + 1, x0, x1, M => if x1 < (M x0 2) then (xA (0 ≤ x1 ∧ x1 < 60) (xA (0 ≤ (xw32 (x1 - 3)) ∧ (xw32 (x1 - 3)) < 60) (if 0 < (xcmpL (M (x0 + 1) x1) (M (x0 + 1) (xw32 (x1 - 3)))) then ((fSlot_rises_L2 g) x0 (xw32 (x1 + 3)) M) else (some 0)))) else (some 1)
theorem hSlot_rises_L2 : ∀ (g : Nat) (x0 x1 : Int) (M : xM) (r : Int) (h : fSlot_rises_L2 g x0 x1 M = some r), xEv (293, 2, [some (11, x0), some (0, x1)], [], M) (some (0, r), M)
  | 0, _, _, _, _, h => by cases h
  | g + 1, x0, x1, M, r, h => by
    unfold fSlot_rises_L2 at h
    refine xEvG_n xml xfetch 4 (y := (293, if x1 < (M x0 2) then 10 else 36, [some (11, x0), some (0, x1)], [], M)) rfl trivial ?_
    refine xEvG_br xml xfetch (fun c_ => ?_) (fun c_ => ?_)
    · have h := xif_t c_ h
      have a0_ := (xA_t h).1
      have h := (xA_t h).2
      have a1_ := (xA_t h).1
      have h := (xA_t h).2
      refine xEvG_n xml xfetch 12 (y := (293, if 0 < (xcmpL (M (x0 + 1) x1) (M (x0 + 1) (xw32 (x1 - 3)))) then 30 else 28, [some (11, x0), some (0, x1)], [], M)) rfl ⟨a0_, a1_, trivial⟩ ?_
      refine xEvG_br xml xfetch (fun c_ => ?_) (fun c_ => ?_)
      · have h := xif_t c_ h
        refine xEvG_n xml xfetch 2 (y := (293, 2, [some (11, x0), some (0, (xw32 (x1 + 3)))], [], M)) rfl trivial ?_
        refine xEvG_mask xml xfetch [true, true] ?_
        exact (hSlot_rises_L2 g) x0 (xw32 (x1 + 3)) M _ h
      · have h := xif_f c_ h
        refine xEvG_n xml xfetch 1 (y := (293, 29, [some (11, x0), some (0, x1)], [(0, 0)], M)) rfl trivial ?_
        cases h
        exact xEvG_retc xml xfetch rfl (Or.inl rfl)
    · have h := xif_f c_ h
      refine xEvG_n xml xfetch 1 (y := (293, 37, [some (11, x0), some (0, x1)], [(0, 1)], M)) rfl trivial ?_
      cases h
      exact xEvG_retc xml xfetch rfl (Or.inr rfl)
/-- ConsentDoors$Slot.rises()Z -/
def fSlot_rises (a0 : Int) (M : xM) : Option Int := fSlot_rises_L2 20001 a0 3 M
theorem hSlot_rises (a0 : Int) (M : xM) (r : Int) (h : fSlot_rises a0 M = some r) : xEv (293, 0, [some (11, a0), none], [], M) (some (0, r), M) := by
  unfold fSlot_rises at h
  refine xEvG_n xml xfetch 2 (y := (293, 2, [some (11, a0), some (0, 3)], [], M)) rfl trivial ?_
  refine xEvG_mask xml xfetch [true, true] ?_
  exact hSlot_rises_L2 20001 a0 3 M _ h

/-- ConsentDoors.barToTale(IZ)I -/
def fD_barToTale (a0 a1 a2 : Int) (M : xM) : Option Int := if (fD_isSlot a1 M) = 0 then (some (-2)) else (if (fPrison_stands (a0 + 15) M) = 0 then (some (-2)) else (xA (0 ≤ a1 ∧ a1 < 4) (if (M ((a0 + 267) + 34 + 2 * a1) 0) = 0 then (some (-6)) else (xA (0 ≤ a1 ∧ a1 < 4) (xB (fSlot_tells ((a0 + 267) + 34 + 2 * a1) (M (a0 + 15) 1) (M (a0 + 15) 0) M) (fun v3 => if v3 = 0 then (some (-2)) else (if a2 = 0 then (some 0) else (xA (0 ≤ a1 ∧ a1 < 4) (xB (fSlot_rises ((a0 + 267) + 34 + 2 * a1) M) (fun v4 => some (if (if v4 = 0 then 0 else 1 : Int) = 0 then (-2) else 0 : Int)))))))))))
theorem hD_barToTale (a0 a1 a2 : Int) (M : xM) (r : Int) (h : fD_barToTale a0 a1 a2 M = some r) : xEv (63, 0, [some (2, a0), some (0, a1), some (0, a2), none], [], M) (some (0, r), M) := by
  unfold fD_barToTale at h
  refine xEvG_n xml xfetch 1 (y := (63, 1, [some (2, a0), some (0, a1), some (0, a2), none], [(0, a1)], M)) rfl trivial ?_
  refine xEvG_call xml xfetch (q := (some (0, fD_isSlot a1 M), M)) rfl (hD_isSlot a1 M _ rfl) ?_
  show xEv (63, 4, [some (2, a0), some (0, a1), some (0, a2), none], [(0, (fD_isSlot a1 M))], M) _
  refine xEvG_n xml xfetch 1 (y := (63, if (fD_isSlot a1 M) = 0 then 17 else 7, [some (2, a0), some (0, a1), some (0, a2), none], [], M)) rfl trivial ?_
  refine xEvG_br xml xfetch (fun c_ => ?_) (fun c_ => ?_)
  · have h := xif_t c_ h
    refine xEvG_n xml xfetch 1 (y := (63, 19, [some (2, a0), some (0, a1), some (0, a2), none], [(0, (-2))], M)) rfl trivial ?_
    cases h
    exact xEvG_ret xml xfetch rfl
  · have h := xif_f c_ h
    refine xEvG_n xml xfetch 2 (y := (63, 11, [some (2, a0), some (0, a1), some (0, a2), none], [(8, (a0 + 15))], M)) rfl trivial ?_
    refine xEvG_call xml xfetch (q := (some (0, fPrison_stands (a0 + 15) M), M)) rfl (hPrison_stands (a0 + 15) M _ rfl) ?_
    show xEv (63, 14, [some (2, a0), some (0, a1), some (0, a2), none], [(0, (fPrison_stands (a0 + 15) M))], M) _
    refine xEvG_n xml xfetch 1 (y := (63, if (fPrison_stands (a0 + 15) M) = 0 then 17 else 20, [some (2, a0), some (0, a1), some (0, a2), none], [], M)) rfl trivial ?_
    refine xEvG_br xml xfetch (fun c_ => ?_) (fun c_ => ?_)
    · have h := xif_t c_ h
      refine xEvG_n xml xfetch 1 (y := (63, 19, [some (2, a0), some (0, a1), some (0, a2), none], [(0, (-2))], M)) rfl trivial ?_
      cases h
      exact xEvG_ret xml xfetch rfl
    · have h := xif_f c_ h
      have a0_ := (xA_t h).1
      have h := (xA_t h).2
      refine xEvG_n xml xfetch 6 (y := (63, if (M ((a0 + 267) + 34 + 2 * a1) 0) = 0 then 32 else 35, [some (2, a0), some (0, a1), some (0, a2), none], [], M)) rfl ⟨a0_, trivial⟩ ?_
      refine xEvG_br xml xfetch (fun c_ => ?_) (fun c_ => ?_)
      · have h := xif_t c_ h
        refine xEvG_n xml xfetch 1 (y := (63, 34, [some (2, a0), some (0, a1), some (0, a2), none], [(0, (-6))], M)) rfl trivial ?_
        cases h
        exact xEvG_ret xml xfetch rfl
      · have h := xif_f c_ h
        have a0_ := (xA_t h).1
        have h := (xA_t h).2
        refine xEvG_n xml xfetch 10 (y := (63, 55, [some (2, a0), some (0, a1), some (0, a2), none], [(0, (M (a0 + 15) 0)), (0, (M (a0 + 15) 1)), (11, ((a0 + 267) + 34 + 2 * a1))], M)) rfl ⟨a0_, trivial⟩ ?_
        obtain ⟨v3, e_, h⟩ := xB_t h
        refine xEvG_call xml xfetch (q := (some (0, v3), M)) rfl (hSlot_tells ((a0 + 267) + 34 + 2 * a1) (M (a0 + 15) 1) (M (a0 + 15) 0) M _ e_) ?_
        show xEv (63, 58, [some (2, a0), some (0, a1), some (0, a2), none], [(0, v3)], M) _
        refine xEvG_n xml xfetch 1 (y := (63, if v3 = 0 then 81 else 61, [some (2, a0), some (0, a1), some (0, a2), none], [], M)) rfl trivial ?_
        refine xEvG_br xml xfetch (fun c_ => ?_) (fun c_ => ?_)
        · have h := xif_t c_ h
          refine xEvG_n xml xfetch 5 (y := (63, 93, [some (2, a0), some (0, a1), some (0, a2), some (0, 0)], [(0, (-2))], M)) rfl trivial ?_
          cases h
          exact xEvG_ret xml xfetch rfl
        · have h := xif_f c_ h
          refine xEvG_n xml xfetch 2 (y := (63, if a2 = 0 then 77 else 65, [some (2, a0), some (0, a1), some (0, a2), none], [], M)) rfl trivial ?_
          refine xEvG_br xml xfetch (fun c_ => ?_) (fun c_ => ?_)
          · have h := xif_t c_ h
            refine xEvG_n xml xfetch 7 (y := (63, 93, [some (2, a0), some (0, a1), some (0, a2), some (0, 1)], [(0, 0)], M)) rfl trivial ?_
            cases h
            exact xEvG_ret xml xfetch rfl
          · have h := xif_f c_ h
            have a0_ := (xA_t h).1
            have h := (xA_t h).2
            refine xEvG_n xml xfetch 4 (y := (63, 71, [some (2, a0), some (0, a1), some (0, a2), none], [(11, ((a0 + 267) + 34 + 2 * a1))], M)) rfl ⟨a0_, trivial⟩ ?_
            obtain ⟨v4, e_, h⟩ := xB_t h
            refine xEvG_call xml xfetch (q := (some (0, v4), M)) rfl (hSlot_rises ((a0 + 267) + 34 + 2 * a1) M _ e_) ?_
            show xEv (63, 74, [some (2, a0), some (0, a1), some (0, a2), none], [(0, v4)], M) _
            have key_ : xEv (63, 82, [some (2, a0), some (0, a1), some (0, a2), none], [(0, (if v4 = 0 then 0 else 1 : Int))], M) (some (0, r), M) := by
              refine xEvG_n xml xfetch 2 (y := (63, 84, [some (2, a0), some (0, a1), some (0, a2), some (0, (if v4 = 0 then 0 else 1 : Int))], [(0, (if v4 = 0 then 0 else 1 : Int))], M)) rfl trivial ?_
              have key_ : xEv (63, 93, [some (2, a0), some (0, a1), some (0, a2), some (0, (if v4 = 0 then 0 else 1 : Int))], [(0, (if (if v4 = 0 then 0 else 1 : Int) = 0 then (-2) else 0 : Int))], M) (some (0, r), M) := by
                cases h
                exact xEvG_ret xml xfetch rfl
              refine xEvG_n xml xfetch 1 (y := (63, if (if v4 = 0 then 0 else 1 : Int) = 0 then 91 else 87, [some (2, a0), some (0, a1), some (0, a2), some (0, (if v4 = 0 then 0 else 1 : Int))], [], M)) rfl trivial ?_
              refine xEvG_br xml xfetch (fun c14_ => ?_) (fun c14_ => ?_)
              · refine xEvG_n xml xfetch 1 (y := (63, 93, [some (2, a0), some (0, a1), some (0, a2), some (0, (if v4 = 0 then 0 else 1 : Int))], [(0, (-2))], M)) rfl trivial ?_
                try simp only [if_pos c14_] at key_
                try simp only [if_pos c14_]
                exact key_
              · refine xEvG_n xml xfetch 2 (y := (63, 93, [some (2, a0), some (0, a1), some (0, a2), some (0, (if v4 = 0 then 0 else 1 : Int))], [(0, 0)], M)) rfl trivial ?_
                try simp only [if_neg c14_] at key_
                try simp only [if_neg c14_]
                exact key_
            refine xEvG_n xml xfetch 1 (y := (63, if v4 = 0 then 81 else 77, [some (2, a0), some (0, a1), some (0, a2), none], [], M)) rfl trivial ?_
            refine xEvG_br xml xfetch (fun c12_ => ?_) (fun c12_ => ?_)
            · refine xEvG_n xml xfetch 1 (y := (63, 82, [some (2, a0), some (0, a1), some (0, a2), none], [(0, 0)], M)) rfl trivial ?_
              try simp only [if_pos c12_] at key_
              try simp only [if_pos c12_]
              exact key_
            · refine xEvG_n xml xfetch 2 (y := (63, 82, [some (2, a0), some (0, a1), some (0, a2), none], [(0, 1)], M)) rfl trivial ?_
              try simp only [if_neg c12_] at key_
              try simp only [if_neg c12_]
              exact key_

def fInquiry_firstUntrue_L69 (k_6 : Int → Int → Int → Int → Int → xM → Option Int) (x1 x2 x3 x4 x5 x7 y0 : Int) (M : xM) : Option Int := xA (0 ≤ (xw32 (x5 + 2)) ∧ (xw32 (x5 + 2)) < 60) (if y0 = (if (xcmpL (M (x2 + 1) (xw32 (x5 + 2))) 1) = 0 then 1 else 0 : Int) then (if y0 = 0 then (k_6 x1 x2 x3 (xor32 x4 0) (xw32 (x5 + 3)) M) else (k_6 x1 x2 x3 (xor32 x4 (xshl 1 x7)) (xw32 (x5 + 3)) M)) else (some (xdiv x5 3)))
theorem hInquiry_firstUntrue_L69 (k_6 : Int → Int → Int → Int → Int → xM → Option Int) (hk_6 : ∀ (x1 x2 x3 x4 x5 : Int) (M : xM) (r : Int), k_6 x1 x2 x3 x4 x5 M = some r → xEv (233, 6, [none, some (6, x1), some (11, x2), some (0, x3), some (0, x4), some (0, x5), none, none, none], [], M) (some (0, r), M)) (x1 x2 x3 x4 x5 x7 y0 : Int) (M : xM) (r : Int) (h : fInquiry_firstUntrue_L69 k_6 x1 x2 x3 x4 x5 x7 y0 M = some r) : xEv (233, 69, [none, some (6, x1), some (11, x2), some (0, x3), some (0, x4), some (0, x5), none, some (0, x7), none], [(0, y0)], M) (some (0, r), M) := by
  unfold fInquiry_firstUntrue_L69 at h
  have a0_ := (xA_t h).1
  have h := (xA_t h).2
  refine xEvG_n xml xfetch 10 (y := (233, 84, [none, some (6, x1), some (11, x2), some (0, x3), some (0, x4), some (0, x5), none, some (0, x7), some (0, y0)], [(0, (xcmpL (M (x2 + 1) (xw32 (x5 + 2))) 1)), (0, y0)], M)) rfl ⟨a0_, trivial⟩ ?_
  have key_ : xEv (233, 92, [none, some (6, x1), some (11, x2), some (0, x3), some (0, x4), some (0, x5), none, some (0, x7), some (0, y0)], [(0, (if (xcmpL (M (x2 + 1) (xw32 (x5 + 2))) 1) = 0 then 1 else 0 : Int)), (0, y0)], M) (some (0, r), M) := by
    refine xEvG_n xml xfetch 1 (y := (233, if y0 = (if (xcmpL (M (x2 + 1) (xw32 (x5 + 2))) 1) = 0 then 1 else 0 : Int) then 100 else 95, [none, some (6, x1), some (11, x2), some (0, x3), some (0, x4), some (0, x5), none, some (0, x7), some (0, y0)], [], M)) rfl trivial ?_
    refine xEvG_br xml xfetch (fun c_ => ?_) (fun c_ => ?_)
    · have h := xif_t c_ h
      refine xEvG_n xml xfetch 3 (y := (233, if y0 = 0 then 114 else 107, [none, some (6, x1), some (11, x2), some (0, x3), some (0, x4), some (0, x5), none, some (0, x7), some (0, y0)], [(0, x4)], M)) rfl trivial ?_
      refine xEvG_br xml xfetch (fun c_ => ?_) (fun c_ => ?_)
      · have h := xif_t c_ h
        refine xEvG_n xml xfetch 5 (y := (233, 6, [none, some (6, x1), some (11, x2), some (0, x3), some (0, (xor32 x4 0)), some (0, (xw32 (x5 + 3))), none, some (0, x7), some (0, y0)], [], M)) rfl trivial ?_
        refine xEvG_mask xml xfetch [false, true, true, true, true, true, false, false, false] ?_
        exact hk_6 x1 x2 x3 (xor32 x4 0) (xw32 (x5 + 3)) M _ h
      · have h := xif_f c_ h
        refine xEvG_n xml xfetch 8 (y := (233, 6, [none, some (6, x1), some (11, x2), some (0, x3), some (0, (xor32 x4 (xshl 1 x7))), some (0, (xw32 (x5 + 3))), none, some (0, x7), some (0, y0)], [], M)) rfl trivial ?_
        refine xEvG_mask xml xfetch [false, true, true, true, true, true, false, false, false] ?_
        exact hk_6 x1 x2 x3 (xor32 x4 (xshl 1 x7)) (xw32 (x5 + 3)) M _ h
    · have h := xif_f c_ h
      refine xEvG_n xml xfetch 3 (y := (233, 99, [none, some (6, x1), some (11, x2), some (0, x3), some (0, x4), some (0, x5), none, some (0, x7), some (0, y0)], [(0, (xdiv x5 3))], M)) rfl ⟨by decide, trivial⟩ ?_
      cases h
      exact xEvG_ret xml xfetch rfl
  refine xEvG_n xml xfetch 1 (y := (233, if (xcmpL (M (x2 + 1) (xw32 (x5 + 2))) 1) = 0 then 87 else 91, [none, some (6, x1), some (11, x2), some (0, x3), some (0, x4), some (0, x5), none, some (0, x7), some (0, y0)], [(0, y0)], M)) rfl trivial ?_
  refine xEvG_br xml xfetch (fun c2_ => ?_) (fun c2_ => ?_)
  · refine xEvG_n xml xfetch 2 (y := (233, 92, [none, some (6, x1), some (11, x2), some (0, x3), some (0, x4), some (0, x5), none, some (0, x7), some (0, y0)], [(0, 1), (0, y0)], M)) rfl trivial ?_
    try simp only [if_pos c2_] at key_
    try simp only [if_pos c2_]
    exact key_
  · refine xEvG_n xml xfetch 1 (y := (233, 92, [none, some (6, x1), some (11, x2), some (0, x3), some (0, x4), some (0, x5), none, some (0, x7), some (0, y0)], [(0, 0), (0, y0)], M)) rfl trivial ?_
    try simp only [if_neg c2_] at key_
    try simp only [if_neg c2_]
    exact key_
def fInquiry_firstUntrue_L6 : Nat → Int → Int → Int → Int → Int → xM → Option Int
  | 0, _, _, _, _, _, _ => none
  | g + 1, x1, x2, x3, x4, x5, M => if (xw32 (x5 + 2)) < (M x2 2) then (xA (0 ≤ x5 ∧ x5 < 60) (xA (0 ≤ (xw32 (x5 + 1)) ∧ (xw32 (x5 + 1)) < 60) (xB (fKeys_opensFor x1 (xw32 (M (x2 + 1) (xw32 (x5 + 1)))) (xw32 (M (x2 + 1) x5)) x4 M) (fun v1 => if v1 = 0 then (fInquiry_firstUntrue_L69 (fInquiry_firstUntrue_L6 g) x1 x2 x3 x4 x5 (xw32 (M (x2 + 1) (xw32 (x5 + 1)))) 0 M) else (xA (0 ≤ (xw32 (M (x2 + 1) (xw32 (x5 + 1)))) ∧ (xw32 (M (x2 + 1) (xw32 (x5 + 1)))) < 9) (xA (0 ≤ (xw32 (x5 + 2)) ∧ (xw32 (x5 + 2)) < 60) (if (if (xand (M (x1 + 3) (xw32 (M (x2 + 1) (xw32 (x5 + 1))))) x3) = 0 then 1 else 0 : Int) = (if (xcmpL (M (x2 + 1) (xw32 (x5 + 2))) 1) = 0 then 1 else 0 : Int) then (if (if (xand (M (x1 + 3) (xw32 (M (x2 + 1) (xw32 (x5 + 1))))) x3) = 0 then 1 else 0 : Int) = 0 then ((fInquiry_firstUntrue_L6 g) x1 x2 x3 (xor32 x4 0) (xw32 (x5 + 3)) M) else ((fInquiry_firstUntrue_L6 g) x1 x2 x3 (xor32 x4 (xshl 1 (xw32 (M (x2 + 1) (xw32 (x5 + 1)))))) (xw32 (x5 + 3)) M)) else (some (xdiv x5 3))))))))) else (some (-1))
theorem hInquiry_firstUntrue_L6 : ∀ (g : Nat) (x1 x2 x3 x4 x5 : Int) (M : xM) (r : Int) (h : fInquiry_firstUntrue_L6 g x1 x2 x3 x4 x5 M = some r), xEv (233, 6, [none, some (6, x1), some (11, x2), some (0, x3), some (0, x4), some (0, x5), none, none, none], [], M) (some (0, r), M)
  | 0, _, _, _, _, _, _, _, h => by cases h
  | g + 1, x1, x2, x3, x4, x5, M, r, h => by
    unfold fInquiry_firstUntrue_L6 at h
    refine xEvG_n xml xfetch 6 (y := (233, if (xw32 (x5 + 2)) < (M x2 2) then 17 else 124, [none, some (6, x1), some (11, x2), some (0, x3), some (0, x4), some (0, x5), none, none, none], [], M)) rfl trivial ?_
    refine xEvG_br xml xfetch (fun c_ => ?_) (fun c_ => ?_)
    · have h := xif_t c_ h
      have a0_ := (xA_t h).1
      have h := (xA_t h).2
      have a1_ := (xA_t h).1
      have h := (xA_t h).2
      refine xEvG_n xml xfetch 18 (y := (233, 46, [none, some (6, x1), some (11, x2), some (0, x3), some (0, x4), some (0, x5), some (0, (xw32 (M (x2 + 1) x5))), some (0, (xw32 (M (x2 + 1) (xw32 (x5 + 1))))), none], [(0, x4), (0, (xw32 (M (x2 + 1) x5))), (0, (xw32 (M (x2 + 1) (xw32 (x5 + 1))))), (6, x1)], M)) rfl ⟨a0_, a1_, trivial⟩ ?_
      obtain ⟨v1, e_, h⟩ := xB_t h
      refine xEvG_call xml xfetch (q := (some (0, v1), M)) rfl (hKeys_opensFor x1 (xw32 (M (x2 + 1) (xw32 (x5 + 1)))) (xw32 (M (x2 + 1) x5)) x4 M _ e_) ?_
      show xEv (233, 49, [none, some (6, x1), some (11, x2), some (0, x3), some (0, x4), some (0, x5), some (0, (xw32 (M (x2 + 1) x5))), some (0, (xw32 (M (x2 + 1) (xw32 (x5 + 1))))), none], [(0, v1)], M) _
      refine xEvG_n xml xfetch 1 (y := (233, if v1 = 0 then 68 else 52, [none, some (6, x1), some (11, x2), some (0, x3), some (0, x4), some (0, x5), some (0, (xw32 (M (x2 + 1) x5))), some (0, (xw32 (M (x2 + 1) (xw32 (x5 + 1))))), none], [], M)) rfl trivial ?_
      refine xEvG_br xml xfetch (fun c_ => ?_) (fun c_ => ?_)
      · have h := xif_t c_ h
        refine xEvG_n xml xfetch 1 (y := (233, 69, [none, some (6, x1), some (11, x2), some (0, x3), some (0, x4), some (0, x5), some (0, (xw32 (M (x2 + 1) x5))), some (0, (xw32 (M (x2 + 1) (xw32 (x5 + 1))))), none], [(0, 0)], M)) rfl trivial ?_
        refine xEvG_mask xml xfetch [false, true, true, true, true, true, false, true, false] ?_
        exact hInquiry_firstUntrue_L69 (fInquiry_firstUntrue_L6 g) (hInquiry_firstUntrue_L6 g) x1 x2 x3 x4 x5 (xw32 (M (x2 + 1) (xw32 (x5 + 1)))) 0 M _ h
      · have h := xif_f c_ h
        have a0_ := (xA_t h).1
        have h := (xA_t h).2
        refine xEvG_n xml xfetch 6 (y := (233, 61, [none, some (6, x1), some (11, x2), some (0, x3), some (0, x4), some (0, x5), some (0, (xw32 (M (x2 + 1) x5))), some (0, (xw32 (M (x2 + 1) (xw32 (x5 + 1))))), none], [(0, (xand (M (x1 + 3) (xw32 (M (x2 + 1) (xw32 (x5 + 1))))) x3))], M)) rfl ⟨a0_, trivial⟩ ?_
        have key_ : xEv (233, 69, [none, some (6, x1), some (11, x2), some (0, x3), some (0, x4), some (0, x5), some (0, (xw32 (M (x2 + 1) x5))), some (0, (xw32 (M (x2 + 1) (xw32 (x5 + 1))))), none], [(0, (if (xand (M (x1 + 3) (xw32 (M (x2 + 1) (xw32 (x5 + 1))))) x3) = 0 then 1 else 0 : Int))], M) (some (0, r), M) := by
          have a0_ := (xA_t h).1
          have h := (xA_t h).2
          refine xEvG_n xml xfetch 10 (y := (233, 84, [none, some (6, x1), some (11, x2), some (0, x3), some (0, x4), some (0, x5), some (0, (xw32 (M (x2 + 1) x5))), some (0, (xw32 (M (x2 + 1) (xw32 (x5 + 1))))), some (0, (if (xand (M (x1 + 3) (xw32 (M (x2 + 1) (xw32 (x5 + 1))))) x3) = 0 then 1 else 0 : Int))], [(0, (xcmpL (M (x2 + 1) (xw32 (x5 + 2))) 1)), (0, (if (xand (M (x1 + 3) (xw32 (M (x2 + 1) (xw32 (x5 + 1))))) x3) = 0 then 1 else 0 : Int))], M)) rfl ⟨a0_, trivial⟩ ?_
          have key_ : xEv (233, 92, [none, some (6, x1), some (11, x2), some (0, x3), some (0, x4), some (0, x5), some (0, (xw32 (M (x2 + 1) x5))), some (0, (xw32 (M (x2 + 1) (xw32 (x5 + 1))))), some (0, (if (xand (M (x1 + 3) (xw32 (M (x2 + 1) (xw32 (x5 + 1))))) x3) = 0 then 1 else 0 : Int))], [(0, (if (xcmpL (M (x2 + 1) (xw32 (x5 + 2))) 1) = 0 then 1 else 0 : Int)), (0, (if (xand (M (x1 + 3) (xw32 (M (x2 + 1) (xw32 (x5 + 1))))) x3) = 0 then 1 else 0 : Int))], M) (some (0, r), M) := by
            refine xEvG_n xml xfetch 1 (y := (233, if (if (xand (M (x1 + 3) (xw32 (M (x2 + 1) (xw32 (x5 + 1))))) x3) = 0 then 1 else 0 : Int) = (if (xcmpL (M (x2 + 1) (xw32 (x5 + 2))) 1) = 0 then 1 else 0 : Int) then 100 else 95, [none, some (6, x1), some (11, x2), some (0, x3), some (0, x4), some (0, x5), some (0, (xw32 (M (x2 + 1) x5))), some (0, (xw32 (M (x2 + 1) (xw32 (x5 + 1))))), some (0, (if (xand (M (x1 + 3) (xw32 (M (x2 + 1) (xw32 (x5 + 1))))) x3) = 0 then 1 else 0 : Int))], [], M)) rfl trivial ?_
            refine xEvG_br xml xfetch (fun c_ => ?_) (fun c_ => ?_)
            · have h := xif_t c_ h
              refine xEvG_n xml xfetch 3 (y := (233, if (if (xand (M (x1 + 3) (xw32 (M (x2 + 1) (xw32 (x5 + 1))))) x3) = 0 then 1 else 0 : Int) = 0 then 114 else 107, [none, some (6, x1), some (11, x2), some (0, x3), some (0, x4), some (0, x5), some (0, (xw32 (M (x2 + 1) x5))), some (0, (xw32 (M (x2 + 1) (xw32 (x5 + 1))))), some (0, (if (xand (M (x1 + 3) (xw32 (M (x2 + 1) (xw32 (x5 + 1))))) x3) = 0 then 1 else 0 : Int))], [(0, x4)], M)) rfl trivial ?_
              refine xEvG_br xml xfetch (fun c_ => ?_) (fun c_ => ?_)
              · have h := xif_t c_ h
                refine xEvG_n xml xfetch 5 (y := (233, 6, [none, some (6, x1), some (11, x2), some (0, x3), some (0, (xor32 x4 0)), some (0, (xw32 (x5 + 3))), some (0, (xw32 (M (x2 + 1) x5))), some (0, (xw32 (M (x2 + 1) (xw32 (x5 + 1))))), some (0, (if (xand (M (x1 + 3) (xw32 (M (x2 + 1) (xw32 (x5 + 1))))) x3) = 0 then 1 else 0 : Int))], [], M)) rfl trivial ?_
                refine xEvG_mask xml xfetch [false, true, true, true, true, true, false, false, false] ?_
                exact (hInquiry_firstUntrue_L6 g) x1 x2 x3 (xor32 x4 0) (xw32 (x5 + 3)) M _ h
              · have h := xif_f c_ h
                refine xEvG_n xml xfetch 8 (y := (233, 6, [none, some (6, x1), some (11, x2), some (0, x3), some (0, (xor32 x4 (xshl 1 (xw32 (M (x2 + 1) (xw32 (x5 + 1))))))), some (0, (xw32 (x5 + 3))), some (0, (xw32 (M (x2 + 1) x5))), some (0, (xw32 (M (x2 + 1) (xw32 (x5 + 1))))), some (0, (if (xand (M (x1 + 3) (xw32 (M (x2 + 1) (xw32 (x5 + 1))))) x3) = 0 then 1 else 0 : Int))], [], M)) rfl trivial ?_
                refine xEvG_mask xml xfetch [false, true, true, true, true, true, false, false, false] ?_
                exact (hInquiry_firstUntrue_L6 g) x1 x2 x3 (xor32 x4 (xshl 1 (xw32 (M (x2 + 1) (xw32 (x5 + 1)))))) (xw32 (x5 + 3)) M _ h
            · have h := xif_f c_ h
              refine xEvG_n xml xfetch 3 (y := (233, 99, [none, some (6, x1), some (11, x2), some (0, x3), some (0, x4), some (0, x5), some (0, (xw32 (M (x2 + 1) x5))), some (0, (xw32 (M (x2 + 1) (xw32 (x5 + 1))))), some (0, (if (xand (M (x1 + 3) (xw32 (M (x2 + 1) (xw32 (x5 + 1))))) x3) = 0 then 1 else 0 : Int))], [(0, (xdiv x5 3))], M)) rfl ⟨by decide, trivial⟩ ?_
              cases h
              exact xEvG_ret xml xfetch rfl
          refine xEvG_n xml xfetch 1 (y := (233, if (xcmpL (M (x2 + 1) (xw32 (x5 + 2))) 1) = 0 then 87 else 91, [none, some (6, x1), some (11, x2), some (0, x3), some (0, x4), some (0, x5), some (0, (xw32 (M (x2 + 1) x5))), some (0, (xw32 (M (x2 + 1) (xw32 (x5 + 1))))), some (0, (if (xand (M (x1 + 3) (xw32 (M (x2 + 1) (xw32 (x5 + 1))))) x3) = 0 then 1 else 0 : Int))], [(0, (if (xand (M (x1 + 3) (xw32 (M (x2 + 1) (xw32 (x5 + 1))))) x3) = 0 then 1 else 0 : Int))], M)) rfl trivial ?_
          refine xEvG_br xml xfetch (fun c10_ => ?_) (fun c10_ => ?_)
          · refine xEvG_n xml xfetch 2 (y := (233, 92, [none, some (6, x1), some (11, x2), some (0, x3), some (0, x4), some (0, x5), some (0, (xw32 (M (x2 + 1) x5))), some (0, (xw32 (M (x2 + 1) (xw32 (x5 + 1))))), some (0, (if (xand (M (x1 + 3) (xw32 (M (x2 + 1) (xw32 (x5 + 1))))) x3) = 0 then 1 else 0 : Int))], [(0, 1), (0, (if (xand (M (x1 + 3) (xw32 (M (x2 + 1) (xw32 (x5 + 1))))) x3) = 0 then 1 else 0 : Int))], M)) rfl trivial ?_
            try simp only [if_pos c10_] at key_
            try simp only [if_pos c10_]
            exact key_
          · refine xEvG_n xml xfetch 1 (y := (233, 92, [none, some (6, x1), some (11, x2), some (0, x3), some (0, x4), some (0, x5), some (0, (xw32 (M (x2 + 1) x5))), some (0, (xw32 (M (x2 + 1) (xw32 (x5 + 1))))), some (0, (if (xand (M (x1 + 3) (xw32 (M (x2 + 1) (xw32 (x5 + 1))))) x3) = 0 then 1 else 0 : Int))], [(0, 0), (0, (if (xand (M (x1 + 3) (xw32 (M (x2 + 1) (xw32 (x5 + 1))))) x3) = 0 then 1 else 0 : Int))], M)) rfl trivial ?_
            try simp only [if_neg c10_] at key_
            try simp only [if_neg c10_]
            exact key_
        refine xEvG_n xml xfetch 1 (y := (233, if (xand (M (x1 + 3) (xw32 (M (x2 + 1) (xw32 (x5 + 1))))) x3) = 0 then 64 else 68, [none, some (6, x1), some (11, x2), some (0, x3), some (0, x4), some (0, x5), some (0, (xw32 (M (x2 + 1) x5))), some (0, (xw32 (M (x2 + 1) (xw32 (x5 + 1))))), none], [], M)) rfl trivial ?_
        refine xEvG_br xml xfetch (fun c8_ => ?_) (fun c8_ => ?_)
        · refine xEvG_n xml xfetch 2 (y := (233, 69, [none, some (6, x1), some (11, x2), some (0, x3), some (0, x4), some (0, x5), some (0, (xw32 (M (x2 + 1) x5))), some (0, (xw32 (M (x2 + 1) (xw32 (x5 + 1))))), none], [(0, 1)], M)) rfl trivial ?_
          try simp only [if_pos c8_] at key_
          try simp only [if_pos c8_]
          exact key_
        · refine xEvG_n xml xfetch 1 (y := (233, 69, [none, some (6, x1), some (11, x2), some (0, x3), some (0, x4), some (0, x5), some (0, (xw32 (M (x2 + 1) x5))), some (0, (xw32 (M (x2 + 1) (xw32 (x5 + 1))))), none], [(0, 0)], M)) rfl trivial ?_
          try simp only [if_neg c8_] at key_
          try simp only [if_neg c8_]
          exact key_
    · have h := xif_f c_ h
      refine xEvG_n xml xfetch 1 (y := (233, 125, [none, some (6, x1), some (11, x2), some (0, x3), some (0, x4), some (0, x5), none, none, none], [(0, (-1))], M)) rfl trivial ?_
      cases h
      exact xEvG_ret xml xfetch rfl
/-- ConsentDoors$Inquiry.firstUntrue(LConsentDoors$Keys;LConsentDoors$Slot;I)I -/
def fInquiry_firstUntrue (a0 a1 a2 a3 : Int) (M : xM) : Option Int := fInquiry_firstUntrue_L6 20001 a1 a2 a3 0 0 M
theorem hInquiry_firstUntrue (a0 a1 a2 a3 : Int) (M : xM) (r : Int) (h : fInquiry_firstUntrue a0 a1 a2 a3 M = some r) : xEv (233, 0, [some (5, a0), some (6, a1), some (11, a2), some (0, a3), none, none, none, none, none], [], M) (some (0, r), M) := by
  unfold fInquiry_firstUntrue at h
  refine xEvG_n xml xfetch 4 (y := (233, 6, [some (5, a0), some (6, a1), some (11, a2), some (0, a3), some (0, 0), some (0, 0), none, none, none], [], M)) rfl trivial ?_
  refine xEvG_mask xml xfetch [false, true, true, true, true, true, false, false, false] ?_
  exact hInquiry_firstUntrue_L6 20001 a1 a2 a3 0 0 M _ h

def fInquiry_weigh_L87 (k_32 : Int → Int → Int → Int → Int → xM → Option xM) (x0 x1 x2 x3 x4 y0 y1 : Int) (M : xM) : Option xM := k_32 x0 x1 x2 x3 (xw32 (x4 + 1)) (xwr (xwr (xwr (xwr M y1 1 y0) x0 0 (xw32 (((xwr M y1 1 y0) x0 0) + 1))) x0 2 (xand ((xwr (xwr M y1 1 y0) x0 0 (xw32 (((xwr M y1 1 y0) x0 0) + 1))) x0 2) x4)) x0 3 (xor32 ((xwr (xwr (xwr M y1 1 y0) x0 0 (xw32 (((xwr M y1 1 y0) x0 0) + 1))) x0 2 (xand ((xwr (xwr M y1 1 y0) x0 0 (xw32 (((xwr M y1 1 y0) x0 0) + 1))) x0 2) x4)) x0 3) x4))
theorem hInquiry_weigh_L87 (k_32 : Int → Int → Int → Int → Int → xM → Option xM) (hk_32 : ∀ (x0 x1 x2 x3 x4 : Int) (M : xM) (r : xM), k_32 x0 x1 x2 x3 x4 M = some r → xEv (232, 32, [some (5, x0), some (6, x1), some (11, x2), some (0, x3), some (0, x4), none], [], M) (none, r)) (x0 x1 x2 x3 x4 y0 y1 : Int) (M : xM) (r : xM) (h : fInquiry_weigh_L87 k_32 x0 x1 x2 x3 x4 y0 y1 M = some r) : xEv (232, 87, [some (5, x0), some (6, x1), some (11, x2), some (0, x3), some (0, x4), none], [(0, y0), (5, y1)], M) (none, r) := by
  unfold fInquiry_weigh_L87 at h
  refine xEvG_n xml xfetch 21 (y := (232, 32, [some (5, x0), some (6, x1), some (11, x2), some (0, x3), some (0, (xw32 (x4 + 1))), none], [], (xwr (xwr (xwr (xwr M y1 1 y0) x0 0 (xw32 (((xwr M y1 1 y0) x0 0) + 1))) x0 2 (xand ((xwr (xwr M y1 1 y0) x0 0 (xw32 (((xwr M y1 1 y0) x0 0) + 1))) x0 2) x4)) x0 3 (xor32 ((xwr (xwr (xwr M y1 1 y0) x0 0 (xw32 (((xwr M y1 1 y0) x0 0) + 1))) x0 2 (xand ((xwr (xwr M y1 1 y0) x0 0 (xw32 (((xwr M y1 1 y0) x0 0) + 1))) x0 2) x4)) x0 3) x4)))) rfl trivial ?_
  refine xEvG_mask xml xfetch [true, true, true, true, true, false] ?_
  exact hk_32 x0 x1 x2 x3 (xw32 (x4 + 1)) (xwr (xwr (xwr (xwr M y1 1 y0) x0 0 (xw32 (((xwr M y1 1 y0) x0 0) + 1))) x0 2 (xand ((xwr (xwr M y1 1 y0) x0 0 (xw32 (((xwr M y1 1 y0) x0 0) + 1))) x0 2) x4)) x0 3 (xor32 ((xwr (xwr (xwr M y1 1 y0) x0 0 (xw32 (((xwr M y1 1 y0) x0 0) + 1))) x0 2 (xand ((xwr (xwr M y1 1 y0) x0 0 (xw32 (((xwr M y1 1 y0) x0 0) + 1))) x0 2) x4)) x0 3) x4)) _ h
def fInquiry_weigh_L70 (k_32 : Int → Int → Int → Int → Int → xM → Option xM) (x0 x1 x2 x3 x4 y0 : Int) (M : xM) : Option xM := if y0 = 0 then (fInquiry_weigh_L87 k_32 x0 x1 x2 x3 x4 (M x0 1) x0 M) else (fInquiry_weigh_L87 k_32 x0 x1 x2 x3 x4 x4 x0 M)
theorem hInquiry_weigh_L70 (k_32 : Int → Int → Int → Int → Int → xM → Option xM) (hk_32 : ∀ (x0 x1 x2 x3 x4 : Int) (M : xM) (r : xM), k_32 x0 x1 x2 x3 x4 M = some r → xEv (232, 32, [some (5, x0), some (6, x1), some (11, x2), some (0, x3), some (0, x4), none], [], M) (none, r)) (x0 x1 x2 x3 x4 y0 : Int) (M : xM) (r : xM) (h : fInquiry_weigh_L70 k_32 x0 x1 x2 x3 x4 y0 M = some r) : xEv (232, 70, [some (5, x0), some (6, x1), some (11, x2), some (0, x3), some (0, x4), none], [(0, y0)], M) (none, r) := by
  unfold fInquiry_weigh_L70 at h
  refine xEvG_n xml xfetch 4 (y := (232, if y0 = 0 then 83 else 78, [some (5, x0), some (6, x1), some (11, x2), some (0, x3), some (0, x4), some (0, y0)], [(5, x0)], M)) rfl trivial ?_
  refine xEvG_br xml xfetch (fun c_ => ?_) (fun c_ => ?_)
  · have h := xif_t c_ h
    refine xEvG_n xml xfetch 2 (y := (232, 87, [some (5, x0), some (6, x1), some (11, x2), some (0, x3), some (0, x4), some (0, y0)], [(0, (M x0 1)), (5, x0)], M)) rfl trivial ?_
    refine xEvG_mask xml xfetch [true, true, true, true, true, false] ?_
    exact hInquiry_weigh_L87 k_32 hk_32 x0 x1 x2 x3 x4 (M x0 1) x0 M _ h
  · have h := xif_f c_ h
    refine xEvG_n xml xfetch 2 (y := (232, 87, [some (5, x0), some (6, x1), some (11, x2), some (0, x3), some (0, x4), some (0, y0)], [(0, x4), (5, x0)], M)) rfl trivial ?_
    refine xEvG_mask xml xfetch [true, true, true, true, true, false] ?_
    exact hInquiry_weigh_L87 k_32 hk_32 x0 x1 x2 x3 x4 x4 x0 M _ h
def fInquiry_weigh_L32 : Nat → Int → Int → Int → Int → Int → xM → Option xM
  | 0, _, _, _, _, _, _ => none
  | g + 1, x0, x1, x2, x3, x4, M => if x3 < x4 then (some M) else (xB (fInquiry_firstUntrue x0 x1 x2 x4 M) (fun v1 => if v1 = (-1) then (if (fJI_bitCount x4 M) < (fJI_bitCount (M x0 1) M) then (fInquiry_weigh_L70 (fInquiry_weigh_L32 g) x0 x1 x2 x3 x4 1 M) else (fInquiry_weigh_L70 (fInquiry_weigh_L32 g) x0 x1 x2 x3 x4 0 M)) else ((fInquiry_weigh_L32 g) x0 x1 x2 x3 (xw32 (x4 + 1)) M)))
theorem hInquiry_weigh_L32 : ∀ (g : Nat) (x0 x1 x2 x3 x4 : Int) (M : xM) (r : xM) (h : fInquiry_weigh_L32 g x0 x1 x2 x3 x4 M = some r), xEv (232, 32, [some (5, x0), some (6, x1), some (11, x2), some (0, x3), some (0, x4), none], [], M) (none, r)
  | 0, _, _, _, _, _, _, _, h => by cases h
  | g + 1, x0, x1, x2, x3, x4, M, r, h => by
    unfold fInquiry_weigh_L32 at h
    refine xEvG_n xml xfetch 3 (y := (232, if x3 < x4 then 128 else 38, [some (5, x0), some (6, x1), some (11, x2), some (0, x3), some (0, x4), none], [], M)) rfl trivial ?_
    refine xEvG_br xml xfetch (fun c_ => ?_) (fun c_ => ?_)
    · have h := xif_t c_ h
      cases h
      exact xEvG_ret xml xfetch rfl
    · have h := xif_f c_ h
      refine xEvG_n xml xfetch 4 (y := (232, 43, [some (5, x0), some (6, x1), some (11, x2), some (0, x3), some (0, x4), none], [(0, x4), (11, x2), (6, x1), (5, x0)], M)) rfl trivial ?_
      obtain ⟨v1, e_, h⟩ := xB_t h
      refine xEvG_call xml xfetch (q := (some (0, v1), M)) rfl (hInquiry_firstUntrue x0 x1 x2 x4 M _ e_) ?_
      show xEv (232, 46, [some (5, x0), some (6, x1), some (11, x2), some (0, x3), some (0, x4), none], [(0, v1)], M) _
      refine xEvG_n xml xfetch 2 (y := (232, if v1 = (-1) then 50 else 122, [some (5, x0), some (6, x1), some (11, x2), some (0, x3), some (0, x4), none], [], M)) rfl trivial ?_
      refine xEvG_br xml xfetch (fun c_ => ?_) (fun c_ => ?_)
      · have h := xif_t c_ h
        refine xEvG_n xml xfetch 1 (y := (232, 52, [some (5, x0), some (6, x1), some (11, x2), some (0, x3), some (0, x4), none], [(0, x4)], M)) rfl trivial ?_
        refine xEvG_call xml xfetch (q := (some (0, fJI_bitCount x4 M), M)) rfl (hJI_bitCount x4 M _ rfl) ?_
        show xEv (232, 55, [some (5, x0), some (6, x1), some (11, x2), some (0, x3), some (0, x4), none], [(0, (fJI_bitCount x4 M))], M) _
        refine xEvG_n xml xfetch 2 (y := (232, 59, [some (5, x0), some (6, x1), some (11, x2), some (0, x3), some (0, x4), none], [(0, (M x0 1)), (0, (fJI_bitCount x4 M))], M)) rfl trivial ?_
        refine xEvG_call xml xfetch (q := (some (0, fJI_bitCount (M x0 1) M), M)) rfl (hJI_bitCount (M x0 1) M _ rfl) ?_
        show xEv (232, 62, [some (5, x0), some (6, x1), some (11, x2), some (0, x3), some (0, x4), none], [(0, (fJI_bitCount (M x0 1) M)), (0, (fJI_bitCount x4 M))], M) _
        refine xEvG_n xml xfetch 1 (y := (232, if (fJI_bitCount x4 M) < (fJI_bitCount (M x0 1) M) then 65 else 69, [some (5, x0), some (6, x1), some (11, x2), some (0, x3), some (0, x4), none], [], M)) rfl trivial ?_
        refine xEvG_br xml xfetch (fun c_ => ?_) (fun c_ => ?_)
        · have h := xif_t c_ h
          refine xEvG_n xml xfetch 2 (y := (232, 70, [some (5, x0), some (6, x1), some (11, x2), some (0, x3), some (0, x4), none], [(0, 1)], M)) rfl trivial ?_
          refine xEvG_mask xml xfetch [true, true, true, true, true, false] ?_
          exact hInquiry_weigh_L70 (fInquiry_weigh_L32 g) (hInquiry_weigh_L32 g) x0 x1 x2 x3 x4 1 M _ h
        · have h := xif_f c_ h
          refine xEvG_n xml xfetch 1 (y := (232, 70, [some (5, x0), some (6, x1), some (11, x2), some (0, x3), some (0, x4), none], [(0, 0)], M)) rfl trivial ?_
          refine xEvG_mask xml xfetch [true, true, true, true, true, false] ?_
          exact hInquiry_weigh_L70 (fInquiry_weigh_L32 g) (hInquiry_weigh_L32 g) x0 x1 x2 x3 x4 0 M _ h
      · have h := xif_f c_ h
        refine xEvG_n xml xfetch 2 (y := (232, 32, [some (5, x0), some (6, x1), some (11, x2), some (0, x3), some (0, (xw32 (x4 + 1))), none], [], M)) rfl trivial ?_
        refine xEvG_mask xml xfetch [true, true, true, true, true, false] ?_
        exact (hInquiry_weigh_L32 g) x0 x1 x2 x3 (xw32 (x4 + 1)) M _ h
/-- ConsentDoors$Inquiry.weigh(LConsentDoors$Keys;LConsentDoors$Slot;)V -/
def fInquiry_weigh (a0 a1 a2 : Int) (M : xM) : Option xM := fInquiry_weigh_L32 20001 a0 a1 a2 (xw32 ((xshl 1 (M a1 0)) - 1)) 0 (xwr (xwr (xwr (xwr M a0 0 0) a0 1 (xw32 ((xshl 1 (M a1 0)) - 1))) a0 2 (xw32 ((xshl 1 (M a1 0)) - 1))) a0 3 0)
theorem hInquiry_weigh (a0 a1 a2 : Int) (M : xM) (r : xM) (h : fInquiry_weigh a0 a1 a2 M = some r) : xEv (232, 0, [some (5, a0), some (6, a1), some (11, a2), none, none, none], [], M) (none, r) := by
  unfold fInquiry_weigh at h
  refine xEvG_n xml xfetch 21 (y := (232, 32, [some (5, a0), some (6, a1), some (11, a2), some (0, (xw32 ((xshl 1 (M a1 0)) - 1))), some (0, 0), none], [], (xwr (xwr (xwr (xwr M a0 0 0) a0 1 (xw32 ((xshl 1 (M a1 0)) - 1))) a0 2 (xw32 ((xshl 1 (M a1 0)) - 1))) a0 3 0))) rfl trivial ?_
  refine xEvG_mask xml xfetch [true, true, true, true, true, false] ?_
  exact hInquiry_weigh_L32 20001 a0 a1 a2 (xw32 ((xshl 1 (M a1 0)) - 1)) 0 (xwr (xwr (xwr (xwr M a0 0 0) a0 1 (xw32 ((xshl 1 (M a1 0)) - 1))) a0 2 (xw32 ((xshl 1 (M a1 0)) - 1))) a0 3 0) _ h

/-- ConsentDoors.refused(I)I -/
def fD_refused (a0 a1 : Int) (M : xM) : Option (Int × xM) := xB (fD_barToTale a0 a1 1 M) (fun v1 => if v1 = 0 then (xA (0 ≤ a1 ∧ a1 < 4) (xB (fInquiry_weigh (a0 + 264) ((a0 + 37) + 1) ((a0 + 267) + 34 + 2 * a1) M) (fun m2 => some ((m2 (a0 + 264) 0), m2)))) else (some (v1, M)))
theorem hD_refused (a0 a1 : Int) (M : xM) (r : Int × xM) (h : fD_refused a0 a1 M = some r) : xEv (57, 0, [some (2, a0), some (0, a1), none], [], M) (some (0, r.1), r.2) := by
  unfold fD_refused at h
  refine xEvG_n xml xfetch 3 (y := (57, 3, [some (2, a0), some (0, a1), none], [(0, 1), (0, a1), (2, a0)], M)) rfl trivial ?_
  obtain ⟨v1, e_, h⟩ := xB_t h
  refine xEvG_call xml xfetch (q := (some (0, v1), M)) rfl (hD_barToTale a0 a1 1 M _ e_) ?_
  show xEv (57, 6, [some (2, a0), some (0, a1), none], [(0, v1)], M) _
  refine xEvG_n xml xfetch 3 (y := (57, if v1 = 0 then 13 else 11, [some (2, a0), some (0, a1), some (0, v1)], [], M)) rfl trivial ?_
  refine xEvG_br xml xfetch (fun c_ => ?_) (fun c_ => ?_)
  · have h := xif_t c_ h
    have a0_ := (xA_t h).1
    have h := (xA_t h).2
    refine xEvG_n xml xfetch 9 (y := (57, 30, [some (2, a0), some (0, a1), some (0, v1)], [(11, ((a0 + 267) + 34 + 2 * a1)), (6, ((a0 + 37) + 1)), (5, (a0 + 264))], M)) rfl ⟨a0_, trivial⟩ ?_
    obtain ⟨m2, e_, h⟩ := xB_t h
    refine xEvG_call xml xfetch (q := (none, m2)) rfl (hInquiry_weigh (a0 + 264) ((a0 + 37) + 1) ((a0 + 267) + 34 + 2 * a1) M _ e_) ?_
    show xEv (57, 33, [some (2, a0), some (0, a1), some (0, v1)], [], m2) _
    refine xEvG_n xml xfetch 3 (y := (57, 40, [some (2, a0), some (0, a1), some (0, v1)], [(0, (m2 (a0 + 264) 0))], m2)) rfl trivial ?_
    cases h
    exact xEvG_ret xml xfetch rfl
  · have h := xif_f c_ h
    refine xEvG_n xml xfetch 1 (y := (57, 12, [some (2, a0), some (0, a1), some (0, v1)], [(0, v1)], M)) rfl trivial ?_
    cases h
    exact xEvG_ret xml xfetch rfl

/-- ConsentDoors.fewest(I)I -/
def fD_fewest (a0 a1 : Int) (M : xM) : Option (Int × xM) := xB (fD_barToTale a0 a1 1 M) (fun v1 => if v1 = 0 then (xA (0 ≤ a1 ∧ a1 < 4) (xB (fInquiry_weigh (a0 + 264) ((a0 + 37) + 1) ((a0 + 267) + 34 + 2 * a1) M) (fun m2 => some ((if (m2 (a0 + 264) 0) = 0 then (-1) else (m2 (a0 + 264) 1) : Int), m2)))) else (some (v1, M)))
theorem hD_fewest (a0 a1 : Int) (M : xM) (r : Int × xM) (h : fD_fewest a0 a1 M = some r) : xEv (58, 0, [some (2, a0), some (0, a1), none], [], M) (some (0, r.1), r.2) := by
  unfold fD_fewest at h
  refine xEvG_n xml xfetch 3 (y := (58, 3, [some (2, a0), some (0, a1), none], [(0, 1), (0, a1), (2, a0)], M)) rfl trivial ?_
  obtain ⟨v1, e_, h⟩ := xB_t h
  refine xEvG_call xml xfetch (q := (some (0, v1), M)) rfl (hD_barToTale a0 a1 1 M _ e_) ?_
  show xEv (58, 6, [some (2, a0), some (0, a1), none], [(0, v1)], M) _
  refine xEvG_n xml xfetch 3 (y := (58, if v1 = 0 then 13 else 11, [some (2, a0), some (0, a1), some (0, v1)], [], M)) rfl trivial ?_
  refine xEvG_br xml xfetch (fun c_ => ?_) (fun c_ => ?_)
  · have h := xif_t c_ h
    have a0_ := (xA_t h).1
    have h := (xA_t h).2
    refine xEvG_n xml xfetch 9 (y := (58, 30, [some (2, a0), some (0, a1), some (0, v1)], [(11, ((a0 + 267) + 34 + 2 * a1)), (6, ((a0 + 37) + 1)), (5, (a0 + 264))], M)) rfl ⟨a0_, trivial⟩ ?_
    obtain ⟨m2, e_, h⟩ := xB_t h
    refine xEvG_call xml xfetch (q := (none, m2)) rfl (hInquiry_weigh (a0 + 264) ((a0 + 37) + 1) ((a0 + 267) + 34 + 2 * a1) M _ e_) ?_
    show xEv (58, 33, [some (2, a0), some (0, a1), some (0, v1)], [], m2) _
    refine xEvG_n xml xfetch 3 (y := (58, 40, [some (2, a0), some (0, a1), some (0, v1)], [(0, (m2 (a0 + 264) 0))], m2)) rfl trivial ?_
    have key_ : xEv (58, 54, [some (2, a0), some (0, a1), some (0, v1)], [(0, (if (m2 (a0 + 264) 0) = 0 then (-1) else (m2 (a0 + 264) 1) : Int))], m2) (some (0, r.1), r.2) := by
      cases h
      exact xEvG_ret xml xfetch rfl
    refine xEvG_n xml xfetch 1 (y := (58, if (m2 (a0 + 264) 0) = 0 then 43 else 47, [some (2, a0), some (0, a1), some (0, v1)], [], m2)) rfl trivial ?_
    refine xEvG_br xml xfetch (fun c4_ => ?_) (fun c4_ => ?_)
    · refine xEvG_n xml xfetch 2 (y := (58, 54, [some (2, a0), some (0, a1), some (0, v1)], [(0, (-1))], m2)) rfl trivial ?_
      try simp only [if_pos c4_] at key_
      try simp only [if_pos c4_]
      exact key_
    · refine xEvG_n xml xfetch 3 (y := (58, 54, [some (2, a0), some (0, a1), some (0, v1)], [(0, (m2 (a0 + 264) 1))], m2)) rfl trivial ?_
      try simp only [if_neg c4_] at key_
      try simp only [if_neg c4_]
      exact key_
  · have h := xif_f c_ h
    refine xEvG_n xml xfetch 1 (y := (58, 12, [some (2, a0), some (0, a1), some (0, v1)], [(0, v1)], M)) rfl trivial ?_
    cases h
    exact xEvG_ret xml xfetch rfl

def fD_sure_L20 (x0 x1 x2 y0 : Int) (M : xM) : Option (Int × xM) := if y0 = 0 then (xA (0 ≤ x1 ∧ x1 < 4) (xB (fInquiry_weigh (x0 + 264) ((x0 + 37) + 1) ((x0 + 267) + 34 + 2 * x1) M) (fun m1 => if (m1 (x0 + 264) 0) = 0 then (some ((-1), m1)) else (some ((if x2 = 0 then (m1 (x0 + 264) 2) else (xand (xw32 ((xshl 1 (m1 (x0 + 15) 0)) - 1)) (xxor (m1 (x0 + 264) 3) (-1))) : Int), m1))))) else (some (y0, M))
theorem hD_sure_L20 (x0 x1 x2 y0 : Int) (M : xM) (r : Int × xM) (h : fD_sure_L20 x0 x1 x2 y0 M = some r) : xEv (59, 20, [some (2, x0), some (0, x1), some (0, x2), none, none], [(0, y0)], M) (some (0, r.1), r.2) := by
  unfold fD_sure_L20 at h
  refine xEvG_n xml xfetch 3 (y := (59, if y0 = 0 then 27 else 25, [some (2, x0), some (0, x1), some (0, x2), some (0, y0), none], [], M)) rfl trivial ?_
  refine xEvG_br xml xfetch (fun c_ => ?_) (fun c_ => ?_)
  · have h := xif_t c_ h
    have a0_ := (xA_t h).1
    have h := (xA_t h).2
    refine xEvG_n xml xfetch 9 (y := (59, 44, [some (2, x0), some (0, x1), some (0, x2), some (0, y0), none], [(11, ((x0 + 267) + 34 + 2 * x1)), (6, ((x0 + 37) + 1)), (5, (x0 + 264))], M)) rfl ⟨a0_, trivial⟩ ?_
    obtain ⟨m1, e_, h⟩ := xB_t h
    refine xEvG_call xml xfetch (q := (none, m1)) rfl (hInquiry_weigh (x0 + 264) ((x0 + 37) + 1) ((x0 + 267) + 34 + 2 * x1) M _ e_) ?_
    show xEv (59, 47, [some (2, x0), some (0, x1), some (0, x2), some (0, y0), none], [], m1) _
    refine xEvG_n xml xfetch 4 (y := (59, if (m1 (x0 + 264) 0) = 0 then 57 else 59, [some (2, x0), some (0, x1), some (0, x2), some (0, y0), none], [], m1)) rfl trivial ?_
    refine xEvG_br xml xfetch (fun c_ => ?_) (fun c_ => ?_)
    · have h := xif_t c_ h
      refine xEvG_n xml xfetch 1 (y := (59, 58, [some (2, x0), some (0, x1), some (0, x2), some (0, y0), none], [(0, (-1))], m1)) rfl trivial ?_
      cases h
      exact xEvG_ret xml xfetch rfl
    · have h := xif_f c_ h
      refine xEvG_n xml xfetch 9 (y := (59, 73, [some (2, x0), some (0, x1), some (0, x2), some (0, y0), some (0, (xw32 ((xshl 1 (m1 (x0 + 15) 0)) - 1)))], [(0, x2)], m1)) rfl trivial ?_
      have key_ : xEv (59, 98, [some (2, x0), some (0, x1), some (0, x2), some (0, y0), some (0, (xw32 ((xshl 1 (m1 (x0 + 15) 0)) - 1)))], [(0, (if x2 = 0 then (m1 (x0 + 264) 2) else (xand (xw32 ((xshl 1 (m1 (x0 + 15) 0)) - 1)) (xxor (m1 (x0 + 264) 3) (-1))) : Int))], m1) (some (0, r.1), r.2) := by
        cases h
        exact xEvG_ret xml xfetch rfl
      refine xEvG_n xml xfetch 1 (y := (59, if x2 = 0 then 76 else 86, [some (2, x0), some (0, x1), some (0, x2), some (0, y0), some (0, (xw32 ((xshl 1 (m1 (x0 + 15) 0)) - 1)))], [], m1)) rfl trivial ?_
      refine xEvG_br xml xfetch (fun c6_ => ?_) (fun c6_ => ?_)
      · refine xEvG_n xml xfetch 4 (y := (59, 98, [some (2, x0), some (0, x1), some (0, x2), some (0, y0), some (0, (xw32 ((xshl 1 (m1 (x0 + 15) 0)) - 1)))], [(0, (m1 (x0 + 264) 2))], m1)) rfl trivial ?_
        try simp only [if_pos c6_] at key_
        try simp only [if_pos c6_]
        exact key_
      · refine xEvG_n xml xfetch 7 (y := (59, 98, [some (2, x0), some (0, x1), some (0, x2), some (0, y0), some (0, (xw32 ((xshl 1 (m1 (x0 + 15) 0)) - 1)))], [(0, (xand (xw32 ((xshl 1 (m1 (x0 + 15) 0)) - 1)) (xxor (m1 (x0 + 264) 3) (-1))))], m1)) rfl trivial ?_
        try simp only [if_neg c6_] at key_
        try simp only [if_neg c6_]
        exact key_
  · have h := xif_f c_ h
    refine xEvG_n xml xfetch 1 (y := (59, 26, [some (2, x0), some (0, x1), some (0, x2), some (0, y0), none], [(0, y0)], M)) rfl trivial ?_
    cases h
    exact xEvG_ret xml xfetch rfl
/-- ConsentDoors.sure(II)I -/
def fD_sure (a0 a1 a2 : Int) (M : xM) : Option (Int × xM) := if a2 < 0 then (fD_sure_L20 a0 a1 a2 (-2) M) else (if 1 < a2 then (fD_sure_L20 a0 a1 a2 (-2) M) else (xB (fD_barToTale a0 a1 1 M) (fun v2 => if v2 = 0 then (xA (0 ≤ a1 ∧ a1 < 4) (xB (fInquiry_weigh (a0 + 264) ((a0 + 37) + 1) ((a0 + 267) + 34 + 2 * a1) M) (fun m3 => if (m3 (a0 + 264) 0) = 0 then (some ((-1), m3)) else (some ((if a2 = 0 then (m3 (a0 + 264) 2) else (xand (xw32 ((xshl 1 (m3 (a0 + 15) 0)) - 1)) (xxor (m3 (a0 + 264) 3) (-1))) : Int), m3))))) else (some (v2, M)))))
theorem hD_sure (a0 a1 a2 : Int) (M : xM) (r : Int × xM) (h : fD_sure a0 a1 a2 M = some r) : xEv (59, 0, [some (2, a0), some (0, a1), some (0, a2), none, none], [], M) (some (0, r.1), r.2) := by
  unfold fD_sure at h
  refine xEvG_n xml xfetch 2 (y := (59, if a2 < 0 then 9 else 4, [some (2, a0), some (0, a1), some (0, a2), none, none], [], M)) rfl trivial ?_
  refine xEvG_br xml xfetch (fun c_ => ?_) (fun c_ => ?_)
  · have h := xif_t c_ h
    refine xEvG_n xml xfetch 2 (y := (59, 20, [some (2, a0), some (0, a1), some (0, a2), none, none], [(0, (-2))], M)) rfl trivial ?_
    refine xEvG_mask xml xfetch [true, true, true, false, false] ?_
    exact hD_sure_L20 a0 a1 a2 (-2) M _ h
  · have h := xif_f c_ h
    refine xEvG_n xml xfetch 3 (y := (59, if 1 < a2 then 9 else 14, [some (2, a0), some (0, a1), some (0, a2), none, none], [], M)) rfl trivial ?_
    refine xEvG_br xml xfetch (fun c_ => ?_) (fun c_ => ?_)
    · have h := xif_t c_ h
      refine xEvG_n xml xfetch 2 (y := (59, 20, [some (2, a0), some (0, a1), some (0, a2), none, none], [(0, (-2))], M)) rfl trivial ?_
      refine xEvG_mask xml xfetch [true, true, true, false, false] ?_
      exact hD_sure_L20 a0 a1 a2 (-2) M _ h
    · have h := xif_f c_ h
      refine xEvG_n xml xfetch 3 (y := (59, 17, [some (2, a0), some (0, a1), some (0, a2), none, none], [(0, 1), (0, a1), (2, a0)], M)) rfl trivial ?_
      obtain ⟨v2, e_, h⟩ := xB_t h
      refine xEvG_call xml xfetch (q := (some (0, v2), M)) rfl (hD_barToTale a0 a1 1 M _ e_) ?_
      show xEv (59, 20, [some (2, a0), some (0, a1), some (0, a2), none, none], [(0, v2)], M) _
      refine xEvG_n xml xfetch 3 (y := (59, if v2 = 0 then 27 else 25, [some (2, a0), some (0, a1), some (0, a2), some (0, v2), none], [], M)) rfl trivial ?_
      refine xEvG_br xml xfetch (fun c_ => ?_) (fun c_ => ?_)
      · have h := xif_t c_ h
        have a0_ := (xA_t h).1
        have h := (xA_t h).2
        refine xEvG_n xml xfetch 9 (y := (59, 44, [some (2, a0), some (0, a1), some (0, a2), some (0, v2), none], [(11, ((a0 + 267) + 34 + 2 * a1)), (6, ((a0 + 37) + 1)), (5, (a0 + 264))], M)) rfl ⟨a0_, trivial⟩ ?_
        obtain ⟨m3, e_, h⟩ := xB_t h
        refine xEvG_call xml xfetch (q := (none, m3)) rfl (hInquiry_weigh (a0 + 264) ((a0 + 37) + 1) ((a0 + 267) + 34 + 2 * a1) M _ e_) ?_
        show xEv (59, 47, [some (2, a0), some (0, a1), some (0, a2), some (0, v2), none], [], m3) _
        refine xEvG_n xml xfetch 4 (y := (59, if (m3 (a0 + 264) 0) = 0 then 57 else 59, [some (2, a0), some (0, a1), some (0, a2), some (0, v2), none], [], m3)) rfl trivial ?_
        refine xEvG_br xml xfetch (fun c_ => ?_) (fun c_ => ?_)
        · have h := xif_t c_ h
          refine xEvG_n xml xfetch 1 (y := (59, 58, [some (2, a0), some (0, a1), some (0, a2), some (0, v2), none], [(0, (-1))], m3)) rfl trivial ?_
          cases h
          exact xEvG_ret xml xfetch rfl
        · have h := xif_f c_ h
          refine xEvG_n xml xfetch 9 (y := (59, 73, [some (2, a0), some (0, a1), some (0, a2), some (0, v2), some (0, (xw32 ((xshl 1 (m3 (a0 + 15) 0)) - 1)))], [(0, a2)], m3)) rfl trivial ?_
          have key_ : xEv (59, 98, [some (2, a0), some (0, a1), some (0, a2), some (0, v2), some (0, (xw32 ((xshl 1 (m3 (a0 + 15) 0)) - 1)))], [(0, (if a2 = 0 then (m3 (a0 + 264) 2) else (xand (xw32 ((xshl 1 (m3 (a0 + 15) 0)) - 1)) (xxor (m3 (a0 + 264) 3) (-1))) : Int))], m3) (some (0, r.1), r.2) := by
            cases h
            exact xEvG_ret xml xfetch rfl
          refine xEvG_n xml xfetch 1 (y := (59, if a2 = 0 then 76 else 86, [some (2, a0), some (0, a1), some (0, a2), some (0, v2), some (0, (xw32 ((xshl 1 (m3 (a0 + 15) 0)) - 1)))], [], m3)) rfl trivial ?_
          refine xEvG_br xml xfetch (fun c10_ => ?_) (fun c10_ => ?_)
          · refine xEvG_n xml xfetch 4 (y := (59, 98, [some (2, a0), some (0, a1), some (0, a2), some (0, v2), some (0, (xw32 ((xshl 1 (m3 (a0 + 15) 0)) - 1)))], [(0, (m3 (a0 + 264) 2))], m3)) rfl trivial ?_
            try simp only [if_pos c10_] at key_
            try simp only [if_pos c10_]
            exact key_
          · refine xEvG_n xml xfetch 7 (y := (59, 98, [some (2, a0), some (0, a1), some (0, a2), some (0, v2), some (0, (xw32 ((xshl 1 (m3 (a0 + 15) 0)) - 1)))], [(0, (xand (xw32 ((xshl 1 (m3 (a0 + 15) 0)) - 1)) (xxor (m3 (a0 + 264) 3) (-1))))], m3)) rfl trivial ?_
            try simp only [if_neg c10_] at key_
            try simp only [if_neg c10_]
            exact key_
      · have h := xif_f c_ h
        refine xEvG_n xml xfetch 1 (y := (59, 26, [some (2, a0), some (0, a1), some (0, a2), some (0, v2), none], [(0, v2)], M)) rfl trivial ?_
        cases h
        exact xEvG_ret xml xfetch rfl

/-- ConsentDoors.odd(I)I -/
def fD_odd (a0 a1 : Int) (M : xM) : Option Int := xB (fD_barToTale a0 a1 1 M) (fun v1 => if v1 = 0 then (xA (0 ≤ a1 ∧ a1 < 4) (xB (fInquiry_firstUntrue (a0 + 264) ((a0 + 37) + 1) ((a0 + 267) + 34 + 2 * a1) 0 M) (fun v2 => some v2))) else (some v1))
theorem hD_odd (a0 a1 : Int) (M : xM) (r : Int) (h : fD_odd a0 a1 M = some r) : xEv (60, 0, [some (2, a0), some (0, a1), none], [], M) (some (0, r), M) := by
  unfold fD_odd at h
  refine xEvG_n xml xfetch 3 (y := (60, 3, [some (2, a0), some (0, a1), none], [(0, 1), (0, a1), (2, a0)], M)) rfl trivial ?_
  obtain ⟨v1, e_, h⟩ := xB_t h
  refine xEvG_call xml xfetch (q := (some (0, v1), M)) rfl (hD_barToTale a0 a1 1 M _ e_) ?_
  show xEv (60, 6, [some (2, a0), some (0, a1), none], [(0, v1)], M) _
  refine xEvG_n xml xfetch 3 (y := (60, if v1 = 0 then 15 else 11, [some (2, a0), some (0, a1), some (0, v1)], [], M)) rfl trivial ?_
  refine xEvG_br xml xfetch (fun c_ => ?_) (fun c_ => ?_)
  · have h := xif_t c_ h
    have a0_ := (xA_t h).1
    have h := (xA_t h).2
    refine xEvG_n xml xfetch 10 (y := (60, 33, [some (2, a0), some (0, a1), some (0, v1)], [(0, 0), (11, ((a0 + 267) + 34 + 2 * a1)), (6, ((a0 + 37) + 1)), (5, (a0 + 264))], M)) rfl ⟨a0_, trivial⟩ ?_
    obtain ⟨v2, e_, h⟩ := xB_t h
    refine xEvG_call xml xfetch (q := (some (0, v2), M)) rfl (hInquiry_firstUntrue (a0 + 264) ((a0 + 37) + 1) ((a0 + 267) + 34 + 2 * a1) 0 M _ e_) ?_
    show xEv (60, 36, [some (2, a0), some (0, a1), some (0, v1)], [(0, v2)], M) _
    cases h
    exact xEvG_ret xml xfetch rfl
  · have h := xif_f c_ h
    refine xEvG_n xml xfetch 2 (y := (60, 36, [some (2, a0), some (0, a1), some (0, v1)], [(0, v1)], M)) rfl trivial ?_
    cases h
    exact xEvG_ret xml xfetch rfl

def fInquiry_forgedNods_L60 (k_6 : Int → Int → Int → Int → Int → Int → xM → Option Int) (x1 x2 x3 x4 x5 x6 x7 x8 y0 : Int) (M : xM) : Option Int := if y0 = 0 then (k_6 x1 x2 x3 x4 x5 (xw32 (x6 + 3)) M) else (xB (fCourse_goneAhead x2 x7 M) (fun v1 => xB (fPrison_whyNot x1 x4 x8 x7 v1 M) (fun v2 => if v2 = 0 then (k_6 x1 x2 x3 x4 x5 (xw32 (x6 + 3)) M) else (k_6 x1 x2 x3 x4 (xw32 (x5 + 1)) (xw32 (x6 + 3)) M))))
theorem hInquiry_forgedNods_L60 (k_6 : Int → Int → Int → Int → Int → Int → xM → Option Int) (hk_6 : ∀ (x1 x2 x3 x4 x5 x6 : Int) (M : xM) (r : Int), k_6 x1 x2 x3 x4 x5 x6 M = some r → xEv (234, 6, [none, some (8, x1), some (4, x2), some (11, x3), some (0, x4), some (0, x5), some (0, x6), none, none, none], [], M) (some (0, r), M)) (x1 x2 x3 x4 x5 x6 x7 x8 y0 : Int) (M : xM) (r : Int) (h : fInquiry_forgedNods_L60 k_6 x1 x2 x3 x4 x5 x6 x7 x8 y0 M = some r) : xEv (234, 60, [none, some (8, x1), some (4, x2), some (11, x3), some (0, x4), some (0, x5), some (0, x6), some (0, x7), some (0, x8), none], [(0, y0)], M) (some (0, r), M) := by
  unfold fInquiry_forgedNods_L60 at h
  refine xEvG_n xml xfetch 3 (y := (234, if y0 = 0 then 89 else 67, [none, some (8, x1), some (4, x2), some (11, x3), some (0, x4), some (0, x5), some (0, x6), some (0, x7), some (0, x8), some (0, y0)], [], M)) rfl trivial ?_
  refine xEvG_br xml xfetch (fun c_ => ?_) (fun c_ => ?_)
  · have h := xif_t c_ h
    refine xEvG_n xml xfetch 2 (y := (234, 6, [none, some (8, x1), some (4, x2), some (11, x3), some (0, x4), some (0, x5), some (0, (xw32 (x6 + 3))), some (0, x7), some (0, x8), some (0, y0)], [], M)) rfl trivial ?_
    refine xEvG_mask xml xfetch [false, true, true, true, true, true, true, false, false, false] ?_
    exact hk_6 x1 x2 x3 x4 x5 (xw32 (x6 + 3)) M _ h
  · have h := xif_f c_ h
    refine xEvG_n xml xfetch 6 (y := (234, 77, [none, some (8, x1), some (4, x2), some (11, x3), some (0, x4), some (0, x5), some (0, x6), some (0, x7), some (0, x8), some (0, y0)], [(0, x7), (4, x2), (0, x7), (0, x8), (0, x4), (8, x1)], M)) rfl trivial ?_
    obtain ⟨v1, e_, h⟩ := xB_t h
    refine xEvG_call xml xfetch (q := (some (0, v1), M)) rfl (hCourse_goneAhead x2 x7 M _ e_) ?_
    show xEv (234, 80, [none, some (8, x1), some (4, x2), some (11, x3), some (0, x4), some (0, x5), some (0, x6), some (0, x7), some (0, x8), some (0, y0)], [(0, v1), (0, x7), (0, x8), (0, x4), (8, x1)], M) _
    obtain ⟨v2, e_, h⟩ := xB_t h
    refine xEvG_call xml xfetch (q := (some (0, v2), M)) rfl (hPrison_whyNot x1 x4 x8 x7 v1 M _ e_) ?_
    show xEv (234, 83, [none, some (8, x1), some (4, x2), some (11, x3), some (0, x4), some (0, x5), some (0, x6), some (0, x7), some (0, x8), some (0, y0)], [(0, v2)], M) _
    refine xEvG_n xml xfetch 1 (y := (234, if v2 = 0 then 89 else 86, [none, some (8, x1), some (4, x2), some (11, x3), some (0, x4), some (0, x5), some (0, x6), some (0, x7), some (0, x8), some (0, y0)], [], M)) rfl trivial ?_
    refine xEvG_br xml xfetch (fun c_ => ?_) (fun c_ => ?_)
    · have h := xif_t c_ h
      refine xEvG_n xml xfetch 2 (y := (234, 6, [none, some (8, x1), some (4, x2), some (11, x3), some (0, x4), some (0, x5), some (0, (xw32 (x6 + 3))), some (0, x7), some (0, x8), some (0, y0)], [], M)) rfl trivial ?_
      refine xEvG_mask xml xfetch [false, true, true, true, true, true, true, false, false, false] ?_
      exact hk_6 x1 x2 x3 x4 x5 (xw32 (x6 + 3)) M _ h
    · have h := xif_f c_ h
      refine xEvG_n xml xfetch 3 (y := (234, 6, [none, some (8, x1), some (4, x2), some (11, x3), some (0, x4), some (0, (xw32 (x5 + 1))), some (0, (xw32 (x6 + 3))), some (0, x7), some (0, x8), some (0, y0)], [], M)) rfl trivial ?_
      refine xEvG_mask xml xfetch [false, true, true, true, true, true, true, false, false, false] ?_
      exact hk_6 x1 x2 x3 x4 (xw32 (x5 + 1)) (xw32 (x6 + 3)) M _ h
def fInquiry_forgedNods_L6 : Nat → Int → Int → Int → Int → Int → Int → xM → Option Int
  | 0, _, _, _, _, _, _, _ => none
  | g + 1, x1, x2, x3, x4, x5, x6, M => if (xw32 (x6 + 2)) < (M x3 2) then (xA (0 ≤ x6 ∧ x6 < 60) (xA (0 ≤ (xw32 (x6 + 2)) ∧ (xw32 (x6 + 2)) < 60) (xA (0 ≤ (xw32 (x6 + 1)) ∧ (xw32 (x6 + 1)) < 60) (if (xcmpL (M (x3 + 1) (xw32 (x6 + 1))) x4) = 0 then (fInquiry_forgedNods_L60 (fInquiry_forgedNods_L6 g) x1 x2 x3 x4 x5 x6 (xw32 (M (x3 + 1) x6)) (xw32 (M (x3 + 1) (xw32 (x6 + 2)))) 1 M) else (fInquiry_forgedNods_L60 (fInquiry_forgedNods_L6 g) x1 x2 x3 x4 x5 x6 (xw32 (M (x3 + 1) x6)) (xw32 (M (x3 + 1) (xw32 (x6 + 2)))) 0 M))))) else (some x5)
theorem hInquiry_forgedNods_L6 : ∀ (g : Nat) (x1 x2 x3 x4 x5 x6 : Int) (M : xM) (r : Int) (h : fInquiry_forgedNods_L6 g x1 x2 x3 x4 x5 x6 M = some r), xEv (234, 6, [none, some (8, x1), some (4, x2), some (11, x3), some (0, x4), some (0, x5), some (0, x6), none, none, none], [], M) (some (0, r), M)
  | 0, _, _, _, _, _, _, _, _, h => by cases h
  | g + 1, x1, x2, x3, x4, x5, x6, M, r, h => by
    unfold fInquiry_forgedNods_L6 at h
    refine xEvG_n xml xfetch 6 (y := (234, if (xw32 (x6 + 2)) < (M x3 2) then 17 else 95, [none, some (8, x1), some (4, x2), some (11, x3), some (0, x4), some (0, x5), some (0, x6), none, none, none], [], M)) rfl trivial ?_
    refine xEvG_br xml xfetch (fun c_ => ?_) (fun c_ => ?_)
    · have h := xif_t c_ h
      have a0_ := (xA_t h).1
      have h := (xA_t h).2
      have a1_ := (xA_t h).1
      have h := (xA_t h).2
      have a2_ := (xA_t h).1
      have h := (xA_t h).2
      refine xEvG_n xml xfetch 24 (y := (234, if (xcmpL (M (x3 + 1) (xw32 (x6 + 1))) x4) = 0 then 55 else 59, [none, some (8, x1), some (4, x2), some (11, x3), some (0, x4), some (0, x5), some (0, x6), some (0, (xw32 (M (x3 + 1) x6))), some (0, (xw32 (M (x3 + 1) (xw32 (x6 + 2))))), none], [], M)) rfl ⟨a0_, a1_, a2_, trivial⟩ ?_
      refine xEvG_br xml xfetch (fun c_ => ?_) (fun c_ => ?_)
      · have h := xif_t c_ h
        refine xEvG_n xml xfetch 2 (y := (234, 60, [none, some (8, x1), some (4, x2), some (11, x3), some (0, x4), some (0, x5), some (0, x6), some (0, (xw32 (M (x3 + 1) x6))), some (0, (xw32 (M (x3 + 1) (xw32 (x6 + 2))))), none], [(0, 1)], M)) rfl trivial ?_
        refine xEvG_mask xml xfetch [false, true, true, true, true, true, true, true, true, false] ?_
        exact hInquiry_forgedNods_L60 (fInquiry_forgedNods_L6 g) (hInquiry_forgedNods_L6 g) x1 x2 x3 x4 x5 x6 (xw32 (M (x3 + 1) x6)) (xw32 (M (x3 + 1) (xw32 (x6 + 2)))) 1 M _ h
      · have h := xif_f c_ h
        refine xEvG_n xml xfetch 1 (y := (234, 60, [none, some (8, x1), some (4, x2), some (11, x3), some (0, x4), some (0, x5), some (0, x6), some (0, (xw32 (M (x3 + 1) x6))), some (0, (xw32 (M (x3 + 1) (xw32 (x6 + 2))))), none], [(0, 0)], M)) rfl trivial ?_
        refine xEvG_mask xml xfetch [false, true, true, true, true, true, true, true, true, false] ?_
        exact hInquiry_forgedNods_L60 (fInquiry_forgedNods_L6 g) (hInquiry_forgedNods_L6 g) x1 x2 x3 x4 x5 x6 (xw32 (M (x3 + 1) x6)) (xw32 (M (x3 + 1) (xw32 (x6 + 2)))) 0 M _ h
    · have h := xif_f c_ h
      refine xEvG_n xml xfetch 1 (y := (234, 97, [none, some (8, x1), some (4, x2), some (11, x3), some (0, x4), some (0, x5), some (0, x6), none, none, none], [(0, x5)], M)) rfl trivial ?_
      cases h
      exact xEvG_ret xml xfetch rfl
/-- ConsentDoors$Inquiry.forgedNods(LConsentDoors$Prison;LConsentDoors$Course;LConsentDoors$Slot;I)I -/
def fInquiry_forgedNods (a0 a1 a2 a3 a4 : Int) (M : xM) : Option Int := fInquiry_forgedNods_L6 20001 a1 a2 a3 a4 0 0 M
theorem hInquiry_forgedNods (a0 a1 a2 a3 a4 : Int) (M : xM) (r : Int) (h : fInquiry_forgedNods a0 a1 a2 a3 a4 M = some r) : xEv (234, 0, [some (5, a0), some (8, a1), some (4, a2), some (11, a3), some (0, a4), none, none, none, none, none], [], M) (some (0, r), M) := by
  unfold fInquiry_forgedNods at h
  refine xEvG_n xml xfetch 4 (y := (234, 6, [some (5, a0), some (8, a1), some (4, a2), some (11, a3), some (0, a4), some (0, 0), some (0, 0), none, none, none], [], M)) rfl trivial ?_
  refine xEvG_mask xml xfetch [false, true, true, true, true, true, true, false, false, false] ?_
  exact hInquiry_forgedNods_L6 20001 a1 a2 a3 a4 0 0 M _ h

def fD_forged_L18 : Nat → Int → Int → Int → Int → xM → Option Int
  | 0, _, _, _, _, _ => none
  | g + 1, x0, x1, x3, x4, M => if x4 < (M (x0 + 15) 0) then (xA (0 ≤ x1 ∧ x1 < 4) (xB (fInquiry_forgedNods (x0 + 264) (x0 + 15) (x0 + 255) ((x0 + 267) + 34 + 2 * x1) x4 M) (fun v2 => (fD_forged_L18 g) x0 x1 (xw32 (x3 + v2)) (xw32 (x4 + 1)) M))) else (some x3)
theorem hD_forged_L18 : ∀ (g : Nat) (x0 x1 x3 x4 : Int) (M : xM) (r : Int) (h : fD_forged_L18 g x0 x1 x3 x4 M = some r), xEv (61, 18, [some (2, x0), some (0, x1), none, some (0, x3), some (0, x4)], [], M) (some (0, r), M)
  | 0, _, _, _, _, _, _, h => by cases h
  | g + 1, x0, x1, x3, x4, M, r, h => by
    unfold fD_forged_L18 at h
    refine xEvG_n xml xfetch 5 (y := (61, if x4 < (M (x0 + 15) 0) then 30 else 62, [some (2, x0), some (0, x1), none, some (0, x3), some (0, x4)], [], M)) rfl trivial ?_
    refine xEvG_br xml xfetch (fun c_ => ?_) (fun c_ => ?_)
    · have h := xif_t c_ h
      have a0_ := (xA_t h).1
      have h := (xA_t h).2
      refine xEvG_n xml xfetch 12 (y := (61, 51, [some (2, x0), some (0, x1), none, some (0, x3), some (0, x4)], [(0, x4), (11, ((x0 + 267) + 34 + 2 * x1)), (4, (x0 + 255)), (8, (x0 + 15)), (5, (x0 + 264)), (0, x3)], M)) rfl ⟨a0_, trivial⟩ ?_
      obtain ⟨v2, e_, h⟩ := xB_t h
      refine xEvG_call xml xfetch (q := (some (0, v2), M)) rfl (hInquiry_forgedNods (x0 + 264) (x0 + 15) (x0 + 255) ((x0 + 267) + 34 + 2 * x1) x4 M _ e_) ?_
      show xEv (61, 54, [some (2, x0), some (0, x1), none, some (0, x3), some (0, x4)], [(0, v2), (0, x3)], M) _
      refine xEvG_n xml xfetch 4 (y := (61, 18, [some (2, x0), some (0, x1), none, some (0, (xw32 (x3 + v2))), some (0, (xw32 (x4 + 1)))], [], M)) rfl trivial ?_
      refine xEvG_mask xml xfetch [true, true, false, true, true] ?_
      exact (hD_forged_L18 g) x0 x1 (xw32 (x3 + v2)) (xw32 (x4 + 1)) M _ h
    · have h := xif_f c_ h
      refine xEvG_n xml xfetch 1 (y := (61, 63, [some (2, x0), some (0, x1), none, some (0, x3), some (0, x4)], [(0, x3)], M)) rfl trivial ?_
      cases h
      exact xEvG_ret xml xfetch rfl
/-- ConsentDoors.forged(I)I -/
def fD_forged (a0 a1 : Int) (M : xM) : Option Int := xB (fD_barToTale a0 a1 0 M) (fun v1 => if v1 = 0 then (fD_forged_L18 20001 a0 a1 0 0 M) else (some v1))
theorem hD_forged (a0 a1 : Int) (M : xM) (r : Int) (h : fD_forged a0 a1 M = some r) : xEv (61, 0, [some (2, a0), some (0, a1), none, none, none], [], M) (some (0, r), M) := by
  unfold fD_forged at h
  refine xEvG_n xml xfetch 3 (y := (61, 3, [some (2, a0), some (0, a1), none, none, none], [(0, 0), (0, a1), (2, a0)], M)) rfl trivial ?_
  obtain ⟨v1, e_, h⟩ := xB_t h
  refine xEvG_call xml xfetch (q := (some (0, v1), M)) rfl (hD_barToTale a0 a1 0 M _ e_) ?_
  show xEv (61, 6, [some (2, a0), some (0, a1), none, none, none], [(0, v1)], M) _
  refine xEvG_n xml xfetch 3 (y := (61, if v1 = 0 then 13 else 11, [some (2, a0), some (0, a1), some (0, v1), none, none], [], M)) rfl trivial ?_
  refine xEvG_br xml xfetch (fun c_ => ?_) (fun c_ => ?_)
  · have h := xif_t c_ h
    refine xEvG_n xml xfetch 4 (y := (61, 18, [some (2, a0), some (0, a1), some (0, v1), some (0, 0), some (0, 0)], [], M)) rfl trivial ?_
    refine xEvG_mask xml xfetch [true, true, false, true, true] ?_
    exact hD_forged_L18 20001 a0 a1 0 0 M _ h
  · have h := xif_f c_ h
    refine xEvG_n xml xfetch 1 (y := (61, 12, [some (2, a0), some (0, a1), some (0, v1), none, none], [(0, v1)], M)) rfl trivial ?_
    cases h
    exact xEvG_ret xml xfetch rfl

def fD_forger_L21 : Nat → Int → Int → Int → Int → Int → xM → Option Int
  | 0, _, _, _, _, _, _ => none
  | g + 1, x0, x1, x3, x4, x5, M => if x5 < (M (x0 + 15) 0) then (xA (0 ≤ x1 ∧ x1 < 4) (xB (fInquiry_forgedNods (x0 + 264) (x0 + 15) (x0 + 255) ((x0 + 267) + 34 + 2 * x1) x5 M) (fun v2 => if x3 < v2 then ((fD_forger_L21 g) x0 x1 v2 x5 (xw32 (x5 + 1)) M) else ((fD_forger_L21 g) x0 x1 x3 x4 (xw32 (x5 + 1)) M)))) else (some x4)
theorem hD_forger_L21 : ∀ (g : Nat) (x0 x1 x3 x4 x5 : Int) (M : xM) (r : Int) (h : fD_forger_L21 g x0 x1 x3 x4 x5 M = some r), xEv (62, 21, [some (2, x0), some (0, x1), none, some (0, x3), some (0, x4), some (0, x5), none], [], M) (some (0, r), M)
  | 0, _, _, _, _, _, _, _, h => by cases h
  | g + 1, x0, x1, x3, x4, x5, M, r, h => by
    unfold fD_forger_L21 at h
    refine xEvG_n xml xfetch 5 (y := (62, if x5 < (M (x0 + 15) 0) then 33 else 77, [some (2, x0), some (0, x1), none, some (0, x3), some (0, x4), some (0, x5), none], [], M)) rfl trivial ?_
    refine xEvG_br xml xfetch (fun c_ => ?_) (fun c_ => ?_)
    · have h := xif_t c_ h
      have a0_ := (xA_t h).1
      have h := (xA_t h).2
      refine xEvG_n xml xfetch 11 (y := (62, 53, [some (2, x0), some (0, x1), none, some (0, x3), some (0, x4), some (0, x5), none], [(0, x5), (11, ((x0 + 267) + 34 + 2 * x1)), (4, (x0 + 255)), (8, (x0 + 15)), (5, (x0 + 264))], M)) rfl ⟨a0_, trivial⟩ ?_
      obtain ⟨v2, e_, h⟩ := xB_t h
      refine xEvG_call xml xfetch (q := (some (0, v2), M)) rfl (hInquiry_forgedNods (x0 + 264) (x0 + 15) (x0 + 255) ((x0 + 267) + 34 + 2 * x1) x5 M _ e_) ?_
      show xEv (62, 56, [some (2, x0), some (0, x1), none, some (0, x3), some (0, x4), some (0, x5), none], [(0, v2)], M) _
      refine xEvG_n xml xfetch 4 (y := (62, if x3 < v2 then 64 else 71, [some (2, x0), some (0, x1), none, some (0, x3), some (0, x4), some (0, x5), some (0, v2)], [], M)) rfl trivial ?_
      refine xEvG_br xml xfetch (fun c_ => ?_) (fun c_ => ?_)
      · have h := xif_t c_ h
        refine xEvG_n xml xfetch 6 (y := (62, 21, [some (2, x0), some (0, x1), none, some (0, v2), some (0, x5), some (0, (xw32 (x5 + 1))), some (0, v2)], [], M)) rfl trivial ?_
        refine xEvG_mask xml xfetch [true, true, false, true, true, true, false] ?_
        exact (hD_forger_L21 g) x0 x1 v2 x5 (xw32 (x5 + 1)) M _ h
      · have h := xif_f c_ h
        refine xEvG_n xml xfetch 2 (y := (62, 21, [some (2, x0), some (0, x1), none, some (0, x3), some (0, x4), some (0, (xw32 (x5 + 1))), some (0, v2)], [], M)) rfl trivial ?_
        refine xEvG_mask xml xfetch [true, true, false, true, true, true, false] ?_
        exact (hD_forger_L21 g) x0 x1 x3 x4 (xw32 (x5 + 1)) M _ h
    · have h := xif_f c_ h
      refine xEvG_n xml xfetch 1 (y := (62, 79, [some (2, x0), some (0, x1), none, some (0, x3), some (0, x4), some (0, x5), none], [(0, x4)], M)) rfl trivial ?_
      cases h
      exact xEvG_ret xml xfetch rfl
/-- ConsentDoors.forger(I)I -/
def fD_forger (a0 a1 : Int) (M : xM) : Option Int := xB (fD_barToTale a0 a1 0 M) (fun v1 => if v1 = 0 then (fD_forger_L21 20001 a0 a1 0 (-1) 0 M) else (some v1))
theorem hD_forger (a0 a1 : Int) (M : xM) (r : Int) (h : fD_forger a0 a1 M = some r) : xEv (62, 0, [some (2, a0), some (0, a1), none, none, none, none, none], [], M) (some (0, r), M) := by
  unfold fD_forger at h
  refine xEvG_n xml xfetch 3 (y := (62, 3, [some (2, a0), some (0, a1), none, none, none, none, none], [(0, 0), (0, a1), (2, a0)], M)) rfl trivial ?_
  obtain ⟨v1, e_, h⟩ := xB_t h
  refine xEvG_call xml xfetch (q := (some (0, v1), M)) rfl (hD_barToTale a0 a1 0 M _ e_) ?_
  show xEv (62, 6, [some (2, a0), some (0, a1), none, none, none, none, none], [(0, v1)], M) _
  refine xEvG_n xml xfetch 3 (y := (62, if v1 = 0 then 13 else 11, [some (2, a0), some (0, a1), some (0, v1), none, none, none, none], [], M)) rfl trivial ?_
  refine xEvG_br xml xfetch (fun c_ => ?_) (fun c_ => ?_)
  · have h := xif_t c_ h
    refine xEvG_n xml xfetch 6 (y := (62, 21, [some (2, a0), some (0, a1), some (0, v1), some (0, 0), some (0, (-1)), some (0, 0), none], [], M)) rfl trivial ?_
    refine xEvG_mask xml xfetch [true, true, false, true, true, true, false] ?_
    exact hD_forger_L21 20001 a0 a1 0 (-1) 0 M _ h
  · have h := xif_f c_ h
    refine xEvG_n xml xfetch 1 (y := (62, 12, [some (2, a0), some (0, a1), some (0, v1), none, none, none, none], [(0, v1)], M)) rfl trivial ?_
    cases h
    exact xEvG_ret xml xfetch rfl

end
